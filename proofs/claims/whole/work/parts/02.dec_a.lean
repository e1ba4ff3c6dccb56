theorem dX0_init_0 : decode cX0_init 0 = .ok (.aload_n 0, 1) := by decide +kernel
theorem dX0_init_1 : decode cX0_init 1 = .ok (.invokespecial 3, 3) := by decide +kernel
theorem dX0_init_4 : decode cX0_init 4 = .ok (.aload_n 0, 1) := by decide +kernel
theorem dX0_init_5 : decode cX0_init 5 = .ok (.iconst 0, 1) := by decide +kernel
theorem dX0_init_6 : decode cX0_init 6 = .ok (.putfield 9, 3) := by decide +kernel
theorem dX0_init_9 : decode cX0_init 9 = .ok (.aload_n 0, 1) := by decide +kernel
theorem dX0_init_10 : decode cX0_init 10 = .ok (.iconst 0, 1) := by decide +kernel
theorem dX0_init_11 : decode cX0_init 11 = .ok (.putfield 15, 3) := by decide +kernel
theorem dX0_init_14 : decode cX0_init 14 = .ok (.aload_n 0, 1) := by decide +kernel
theorem dX0_init_15 : decode cX0_init 15 = .ok (.iconst 0, 1) := by decide +kernel
theorem dX0_init_16 : decode cX0_init 16 = .ok (.putfield 18, 3) := by decide +kernel
theorem dX0_init_19 : decode cX0_init 19 = .ok (.return_, 1) := by decide +kernel
theorem dX0_gain_0 : decode cX0_gain 0 = .ok (.aload_n 0, 1) := by decide +kernel
theorem dX0_gain_1 : decode cX0_gain 1 = .ok (.getfield 9, 3) := by decide +kernel
theorem dX0_gain_4 : decode cX0_gain 4 = .ok (.ifCond .ne 7, 3) := by decide +kernel
theorem dX0_gain_7 : decode cX0_gain 7 = .ok (.lconst 1, 1) := by decide +kernel
theorem dX0_gain_8 : decode cX0_gain 8 = .ok (.goto 20, 3) := by decide +kernel
theorem dX0_gain_11 : decode cX0_gain 11 = .ok (.aload_n 0, 1) := by decide +kernel
theorem dX0_gain_12 : decode cX0_gain 12 = .ok (.getfield 9, 3) := by decide +kernel
theorem dX0_gain_15 : decode cX0_gain 15 = .ok (.iconst 1, 1) := by decide +kernel
theorem dX0_gain_16 : decode cX0_gain 16 = .ok (.if_icmp .ne 9, 3) := by decide +kernel
theorem dX0_gain_19 : decode cX0_gain 19 = .ok (.ldc2_w 21, 3) := by decide +kernel
theorem dX0_gain_22 : decode cX0_gain 22 = .ok (.goto 6, 3) := by decide +kernel
theorem dX0_gain_25 : decode cX0_gain 25 = .ok (.ldc2_w 23, 3) := by decide +kernel
theorem dX0_gain_28 : decode cX0_gain 28 = .ok (.lreturn, 1) := by decide +kernel
set_option maxRecDepth 20000 in
theorem ggX0_amplified_X0_gain : GoodIn wsX0_amplified wsX0_gain := goodIn_r _ [6, 7, 8, 9, 10, 11, 12] (by decide +kernel) (by decide +kernel)
set_option maxRecDepth 20000 in
theorem gX0_amplified_X0_gain : GoodIn wsX0_amplified (wsV RX0 25 RX0 yX0_gain wsX0_gain) := goodIn_app (goodIn_of _ (by decide +kernel)) ggX0_amplified_X0_gain
theorem dX0_amplified_0 : decode cX0_amplified 0 = .ok (.aload_n 0, 1) := by decide +kernel
theorem dX0_amplified_1 : decode cX0_amplified 1 = .ok (.invokevirtual 25, 3) := by decide +kernel
theorem dX0_amplified_4 : decode cX0_amplified 4 = .ok (.lload_n 1, 1) := by decide +kernel
theorem dX0_amplified_5 : decode cX0_amplified 5 = .ok (.aload_n 0, 1) := by decide +kernel
theorem dX0_amplified_6 : decode cX0_amplified 6 = .ok (.getfield 15, 3) := by decide +kernel
theorem dX0_amplified_9 : decode cX0_amplified 9 = .ok (.i2l, 1) := by decide +kernel
theorem dX0_amplified_10 : decode cX0_amplified 10 = .ok (.ladd, 1) := by decide +kernel
theorem dX0_amplified_11 : decode cX0_amplified 11 = .ok (.lmul, 1) := by decide +kernel
theorem dX0_amplified_12 : decode cX0_amplified 12 = .ok (.lreturn, 1) := by decide +kernel
theorem dX0_creepOn_0 : decode cX0_creepOn 0 = .ok (.aload_n 0, 1) := by decide +kernel
theorem dX0_creepOn_1 : decode cX0_creepOn 1 = .ok (.sipush (-2000), 3) := by decide +kernel
theorem dX0_creepOn_4 : decode cX0_creepOn 4 = .ok (.sipush 2000, 3) := by decide +kernel
theorem dX0_creepOn_7 : decode cX0_creepOn 7 = .ok (.aload_n 0, 1) := by decide +kernel
theorem dX0_creepOn_8 : decode cX0_creepOn 8 = .ok (.getfield 15, 3) := by decide +kernel
theorem dX0_creepOn_11 : decode cX0_creepOn 11 = .ok (.aload_n 0, 1) := by decide +kernel
theorem dX0_creepOn_12 : decode cX0_creepOn 12 = .ok (.getfield 18, 3) := by decide +kernel
theorem dX0_creepOn_15 : decode cX0_creepOn 15 = .ok (.iadd, 1) := by decide +kernel
theorem dX0_creepOn_16 : decode cX0_creepOn 16 = .ok (.invokestatic 29, 3) := by decide +kernel
theorem dX0_creepOn_19 : decode cX0_creepOn 19 = .ok (.invokestatic 35, 3) := by decide +kernel
theorem dX0_creepOn_22 : decode cX0_creepOn 22 = .ok (.putfield 15, 3) := by decide +kernel
theorem dX0_creepOn_25 : decode cX0_creepOn 25 = .ok (.return_, 1) := by decide +kernel
set_option maxRecDepth 20000 in
theorem ggX1_init_X7_init : GoodIn wsX1_init wsX7_init := goodIn_r _ [21, 22, 2, 3, 23, 24, 25, 26, 27, 49, 50, 51, 52, 53] (by decide +kernel) (by decide +kernel)
set_option maxRecDepth 20000 in
theorem gX1_init_X7_init_n11 : GoodIn wsX1_init (wsX7_init) := ggX1_init_X7_init
set_option maxRecDepth 20000 in
theorem ggX1_init_X0_init : GoodIn wsX1_init wsX0_init := goodIn_r _ [29, 30, 2, 3, 31, 32, 33, 61, 62, 63] (by decide +kernel) (by decide +kernel)
set_option maxRecDepth 20000 in
theorem gX1_init_X0_init_n20 : GoodIn wsX1_init (wsX0_init) := ggX1_init_X0_init
set_option maxRecDepth 20000 in
theorem ggX1_init_X2_init : GoodIn wsX1_init wsX2_init := goodIn_r _ [35, 36, 2, 3, 37, 38, 39, 40, 41, 42, 43, 44, 45, 46, 47, 48, 64, 65, 66, 67, 68, 69, 70, 71, 72, 73, 74] (by decide +kernel) (by decide +kernel)
set_option maxRecDepth 20000 in
theorem gX1_init_X2_init_n27 : GoodIn wsX1_init (wsX2_init) := ggX1_init_X2_init
theorem dX1_init_0 : decode cX1_init 0 = .ok (.aload_n 0, 1) := by decide +kernel
theorem dX1_init_1 : decode cX1_init 1 = .ok (.invokespecial 3, 3) := by decide +kernel
theorem dX1_init_4 : decode cX1_init 4 = .ok (.aload_n 0, 1) := by decide +kernel
theorem dX1_init_5 : decode cX1_init 5 = .ok (.new 9, 3) := by decide +kernel
theorem dX1_init_8 : decode cX1_init 8 = .ok (.dup, 1) := by decide +kernel
theorem dX1_init_9 : decode cX1_init 9 = .ok (.invokespecial 11, 3) := by decide +kernel
theorem dX1_init_12 : decode cX1_init 12 = .ok (.putfield 12, 3) := by decide +kernel
theorem dX1_init_15 : decode cX1_init 15 = .ok (.aload_n 0, 1) := by decide +kernel
theorem dX1_init_16 : decode cX1_init 16 = .ok (.new 18, 3) := by decide +kernel
theorem dX1_init_19 : decode cX1_init 19 = .ok (.dup, 1) := by decide +kernel
theorem dX1_init_20 : decode cX1_init 20 = .ok (.invokespecial 20, 3) := by decide +kernel
theorem dX1_init_23 : decode cX1_init 23 = .ok (.putfield 21, 3) := by decide +kernel
theorem dX1_init_26 : decode cX1_init 26 = .ok (.aload_n 0, 1) := by decide +kernel
theorem dX1_init_27 : decode cX1_init 27 = .ok (.new 25, 3) := by decide +kernel
theorem dX1_init_30 : decode cX1_init 30 = .ok (.dup, 1) := by decide +kernel
theorem dX1_init_31 : decode cX1_init 31 = .ok (.invokespecial 27, 3) := by decide +kernel
theorem dX1_init_34 : decode cX1_init 34 = .ok (.putfield 28, 3) := by decide +kernel
theorem dX1_init_37 : decode cX1_init 37 = .ok (.aload_n 0, 1) := by decide +kernel
theorem dX1_init_38 : decode cX1_init 38 = .ok (.bipush 10, 2) := by decide +kernel
theorem dX1_init_40 : decode cX1_init 40 = .ok (.putfield 32, 3) := by decide +kernel
theorem dX1_init_43 : decode cX1_init 43 = .ok (.aload_n 0, 1) := by decide +kernel
theorem dX1_init_44 : decode cX1_init 44 = .ok (.lconst 0, 1) := by decide +kernel
theorem dX1_init_45 : decode cX1_init 45 = .ok (.putfield 36, 3) := by decide +kernel
theorem dX1_init_48 : decode cX1_init 48 = .ok (.aload_n 0, 1) := by decide +kernel
theorem dX1_init_49 : decode cX1_init 49 = .ok (.iconst 0, 1) := by decide +kernel
theorem dX1_init_50 : decode cX1_init 50 = .ok (.putfield 40, 3) := by decide +kernel
theorem dX1_init_53 : decode cX1_init 53 = .ok (.aload_n 0, 1) := by decide +kernel
theorem dX1_init_54 : decode cX1_init 54 = .ok (.iconst 0, 1) := by decide +kernel
theorem dX1_init_55 : decode cX1_init 55 = .ok (.putfield 43, 3) := by decide +kernel
theorem dX1_init_58 : decode cX1_init 58 = .ok (.return_, 1) := by decide +kernel
set_option maxRecDepth 20000 in
theorem ggX1_converse_X2_begin : GoodIn wsX1_converse wsX2_begin := goodIn_r _ [14, 15, 16, 17, 18, 19, 20, 21, 22, 23, 24, 121, 122, 123, 124, 125, 126, 127, 128, 129, 130, 131] (by decide +kernel) (by decide +kernel)
set_option maxRecDepth 20000 in
theorem gX1_converse_X2_begin : GoodIn wsX1_converse (wsV RX1 49 RX2 yX2_begin wsX2_begin) := goodIn_app (goodIn_of _ (by decide +kernel)) ggX1_converse_X2_begin
set_option maxRecDepth 20000 in
theorem ggX1_converse_X7_calmAt : GoodIn wsX1_converse wsX7_calmAt := goodIn_r _ [29, 30, 31, 32, 33, 34, 35, 36, 28, 37, 38, 39, 40, 41, 132, 133, 134, 135, 136] (by decide +kernel) (by decide +kernel)
set_option maxRecDepth 20000 in
theorem gX1_converse_X7_calmAt : GoodIn wsX1_converse (wsV RX1 56 RX7 yX7_calmAt wsX7_calmAt) := goodIn_app (goodIn_of _ (by decide +kernel)) ggX1_converse_X7_calmAt
set_option maxRecDepth 20000 in
theorem ggX1_converse_X7_stir : GoodIn wsX1_converse wsX7_stir := goodIn_r _ [45, 46, 47, 48, 49, 50, 28, 51, 52, 53, 54, 55, 56, 132, 133, 134, 135, 136] (by decide +kernel) (by decide +kernel)
set_option maxRecDepth 20000 in
theorem gX1_converse_X7_stir : GoodIn wsX1_converse (wsV RX1 60 RX7 yX7_stir wsX7_stir) := goodIn_app (goodIn_of _ (by decide +kernel)) ggX1_converse_X7_stir
set_option maxRecDepth 20000 in
theorem ggX1_converse_X0_amplified : GoodIn wsX1_converse wsX0_amplified := goodIn_r _ [61, 62, 63, 64, 65, 60, 66, 67, 68, 69, 118, 119, 120] (by decide +kernel) (by decide +kernel)
set_option maxRecDepth 20000 in
theorem gX1_converse_X0_amplified : GoodIn wsX1_converse (wsV RX1 64 RX0 yX0_amplified wsX0_amplified) := goodIn_app (goodIn_of _ (by decide +kernel)) ggX1_converse_X0_amplified
set_option maxRecDepth 20000 in
theorem ggX1_converse_X1_signAt : GoodIn wsX1_converse wsX1_signAt := goodIn_r _ [73] (by decide +kernel) (by decide +kernel)
set_option maxRecDepth 20000 in
theorem gX1_converse_X1_signAt : GoodIn wsX1_converse (va_wsS RX1 67 yX1_signAt wsX1_signAt) := goodIn_app (goodIn_of _ (by decide +kernel)) ggX1_converse_X1_signAt
set_option maxRecDepth 20000 in
theorem ggX1_converse_X2_flow : GoodIn wsX1_converse wsX2_flow := goodIn_r _ [77, 78, 79, 80, 81, 82, 83, 84, 85, 86, 17, 23, 21, 87, 18, 19, 24, 20, 121, 122, 123, 124, 125, 126, 127, 128, 129, 130, 131] (by decide +kernel) (by decide +kernel)
set_option maxRecDepth 20000 in
theorem gX1_converse_X2_flow : GoodIn wsX1_converse (wsV RX1 71 RX2 yX2_flow wsX2_flow) := goodIn_app (goodIn_of _ (by decide +kernel)) ggX1_converse_X2_flow
set_option maxRecDepth 20000 in
theorem ggX1_converse_X2_runDown : GoodIn wsX1_converse wsX2_runDown := goodIn_r _ [91, 18, 19, 87, 22, 92, 21, 93, 94, 95, 13, 96, 97, 98, 82, 99, 121, 122, 123, 124, 125, 126, 127, 128, 129, 130, 131] (by decide +kernel) (by decide +kernel)
set_option maxRecDepth 20000 in
theorem gX1_converse_X2_runDown : GoodIn wsX1_converse (wsV RX1 75 RX2 yX2_runDown wsX2_runDown) := goodIn_app (goodIn_of _ (by decide +kernel)) ggX1_converse_X2_runDown
set_option maxRecDepth 20000 in
theorem ggX1_converse_X0_creepOn : GoodIn wsX1_converse wsX0_creepOn := goodIn_r _ [103, 62, 104, 105, 106, 82, 107, 108, 109, 110, 118, 119, 120] (by decide +kernel) (by decide +kernel)
set_option maxRecDepth 20000 in
theorem gX1_converse_X0_creepOn : GoodIn wsX1_converse (wsV RX1 78 RX0 yX0_creepOn wsX0_creepOn) := goodIn_app (goodIn_of _ (by decide +kernel)) ggX1_converse_X0_creepOn
theorem dX1_converse_0 : decode cX1_converse 0 = .ok (.aload_n 0, 1) := by decide +kernel
theorem dX1_converse_1 : decode cX1_converse 1 = .ok (.getfield 28, 3) := by decide +kernel
theorem dX1_converse_4 : decode cX1_converse 4 = .ok (.iload_n 1, 1) := by decide +kernel
theorem dX1_converse_5 : decode cX1_converse 5 = .ok (.aload_n 0, 1) := by decide +kernel
theorem dX1_converse_6 : decode cX1_converse 6 = .ok (.getfield 21, 3) := by decide +kernel
theorem dX1_converse_9 : decode cX1_converse 9 = .ok (.getfield 46, 3) := by decide +kernel
theorem dX1_converse_12 : decode cX1_converse 12 = .ok (.invokevirtual 49, 3) := by decide +kernel
theorem dX1_converse_15 : decode cX1_converse 15 = .ok (.iconst 0, 1) := by decide +kernel
theorem dX1_converse_16 : decode cX1_converse 16 = .ok (.istore_n 2, 1) := by decide +kernel
theorem dX1_converse_17 : decode cX1_converse 17 = .ok (.iload_n 2, 1) := by decide +kernel
theorem dX1_converse_18 : decode cX1_converse 18 = .ok (.aload_n 0, 1) := by decide +kernel
theorem dX1_converse_19 : decode cX1_converse 19 = .ok (.getfield 32, 3) := by decide +kernel
theorem dX1_converse_22 : decode cX1_converse 22 = .ok (.if_icmp .ge 104, 3) := by decide +kernel
theorem dX1_converse_25 : decode cX1_converse 25 = .ok (.aload_n 0, 1) := by decide +kernel
theorem dX1_converse_26 : decode cX1_converse 26 = .ok (.getfield 28, 3) := by decide +kernel
theorem dX1_converse_29 : decode cX1_converse 29 = .ok (.getfield 53, 3) := by decide +kernel
theorem dX1_converse_32 : decode cX1_converse 32 = .ok (.lconst 0, 1) := by decide +kernel
theorem dX1_converse_33 : decode cX1_converse 33 = .ok (.lcmp, 1) := by decide +kernel
theorem dX1_converse_34 : decode cX1_converse 34 = .ok (.ifCond .le 7, 3) := by decide +kernel
theorem dX1_converse_37 : decode cX1_converse 37 = .ok (.iconst (-1), 1) := by decide +kernel
theorem dX1_converse_38 : decode cX1_converse 38 = .ok (.goto 4, 3) := by decide +kernel
theorem dX1_converse_41 : decode cX1_converse 41 = .ok (.iconst 1, 1) := by decide +kernel
theorem dX1_converse_42 : decode cX1_converse 42 = .ok (.istore_n 3, 1) := by decide +kernel
theorem dX1_converse_43 : decode cX1_converse 43 = .ok (.iconst 0, 1) := by decide +kernel
theorem dX1_converse_44 : decode cX1_converse 44 = .ok (.istore 4, 2) := by decide +kernel
theorem dX1_converse_46 : decode cX1_converse 46 = .ok (.iload 4, 2) := by decide +kernel
theorem dX1_converse_48 : decode cX1_converse 48 = .ok (.bipush 10, 2) := by decide +kernel
theorem dX1_converse_50 : decode cX1_converse 50 = .ok (.if_icmp .ge 70, 3) := by decide +kernel
theorem dX1_converse_53 : decode cX1_converse 53 = .ok (.iload_n 1, 1) := by decide +kernel
theorem dX1_converse_54 : decode cX1_converse 54 = .ok (.ifCond .eq 7, 3) := by decide +kernel
theorem dX1_converse_57 : decode cX1_converse 57 = .ok (.lconst 0, 1) := by decide +kernel
theorem dX1_converse_58 : decode cX1_converse 58 = .ok (.goto 22, 3) := by decide +kernel
theorem dX1_converse_61 : decode cX1_converse 61 = .ok (.aload_n 0, 1) := by decide +kernel
theorem dX1_converse_62 : decode cX1_converse 62 = .ok (.getfield 12, 3) := by decide +kernel
theorem dX1_converse_65 : decode cX1_converse 65 = .ok (.aload_n 0, 1) := by decide +kernel
theorem dX1_converse_66 : decode cX1_converse 66 = .ok (.getfield 36, 3) := by decide +kernel
theorem dX1_converse_69 : decode cX1_converse 69 = .ok (.invokevirtual 56, 3) := by decide +kernel
theorem dX1_converse_72 : decode cX1_converse 72 = .ok (.aload_n 0, 1) := by decide +kernel
theorem dX1_converse_73 : decode cX1_converse 73 = .ok (.getfield 12, 3) := by decide +kernel
theorem dX1_converse_76 : decode cX1_converse 76 = .ok (.invokevirtual 60, 3) := by decide +kernel
theorem dX1_converse_79 : decode cX1_converse 79 = .ok (.ladd, 1) := by decide +kernel
theorem dX1_converse_80 : decode cX1_converse 80 = .ok (.lstore 5, 2) := by decide +kernel
theorem dX1_converse_82 : decode cX1_converse 82 = .ok (.aload_n 0, 1) := by decide +kernel
theorem dX1_converse_83 : decode cX1_converse 83 = .ok (.getfield 28, 3) := by decide +kernel
theorem dX1_converse_86 : decode cX1_converse 86 = .ok (.aload_n 0, 1) := by decide +kernel
theorem dX1_converse_87 : decode cX1_converse 87 = .ok (.getfield 21, 3) := by decide +kernel
theorem dX1_converse_90 : decode cX1_converse 90 = .ok (.lload 5, 2) := by decide +kernel
theorem dX1_converse_92 : decode cX1_converse 92 = .ok (.invokevirtual 64, 3) := by decide +kernel
theorem dX1_converse_95 : decode cX1_converse 95 = .ok (.iload 4, 2) := by decide +kernel
theorem dX1_converse_97 : decode cX1_converse 97 = .ok (.iload_n 3, 1) := by decide +kernel
theorem dX1_converse_98 : decode cX1_converse 98 = .ok (.invokestatic 67, 3) := by decide +kernel
theorem dX1_converse_101 : decode cX1_converse 101 = .ok (.invokevirtual 71, 3) := by decide +kernel
theorem dX1_converse_104 : decode cX1_converse 104 = .ok (.aload_n 0, 1) := by decide +kernel
theorem dX1_converse_105 : decode cX1_converse 105 = .ok (.dup, 1) := by decide +kernel
theorem dX1_converse_106 : decode cX1_converse 106 = .ok (.getfield 36, 3) := by decide +kernel
theorem dX1_converse_109 : decode cX1_converse 109 = .ok (.lconst 1, 1) := by decide +kernel
theorem dX1_converse_110 : decode cX1_converse 110 = .ok (.ladd, 1) := by decide +kernel
theorem dX1_converse_111 : decode cX1_converse 111 = .ok (.putfield 36, 3) := by decide +kernel
theorem dX1_converse_114 : decode cX1_converse 114 = .ok (.iinc 4 1, 3) := by decide +kernel
theorem dX1_converse_117 : decode cX1_converse 117 = .ok (.goto (-71), 3) := by decide +kernel
theorem dX1_converse_120 : decode cX1_converse 120 = .ok (.iinc 2 1, 3) := by decide +kernel
theorem dX1_converse_123 : decode cX1_converse 123 = .ok (.goto (-106), 3) := by decide +kernel
theorem dX1_converse_126 : decode cX1_converse 126 = .ok (.aload_n 0, 1) := by decide +kernel
theorem dX1_converse_127 : decode cX1_converse 127 = .ok (.dup, 1) := by decide +kernel
theorem dX1_converse_128 : decode cX1_converse 128 = .ok (.getfield 36, 3) := by decide +kernel
theorem dX1_converse_131 : decode cX1_converse 131 = .ok (.aload_n 0, 1) := by decide +kernel
theorem dX1_converse_132 : decode cX1_converse 132 = .ok (.getfield 28, 3) := by decide +kernel
theorem dX1_converse_135 : decode cX1_converse 135 = .ok (.invokevirtual 75, 3) := by decide +kernel
theorem dX1_converse_138 : decode cX1_converse 138 = .ok (.ladd, 1) := by decide +kernel
theorem dX1_converse_139 : decode cX1_converse 139 = .ok (.putfield 36, 3) := by decide +kernel
theorem dX1_converse_142 : decode cX1_converse 142 = .ok (.aload_n 0, 1) := by decide +kernel
theorem dX1_converse_143 : decode cX1_converse 143 = .ok (.getfield 21, 3) := by decide +kernel
theorem dX1_converse_146 : decode cX1_converse 146 = .ok (.invokevirtual 78, 3) := by decide +kernel
theorem dX1_converse_149 : decode cX1_converse 149 = .ok (.aload_n 0, 1) := by decide +kernel
theorem dX1_converse_150 : decode cX1_converse 150 = .ok (.dup, 1) := by decide +kernel
theorem dX1_converse_151 : decode cX1_converse 151 = .ok (.getfield 40, 3) := by decide +kernel
theorem dX1_converse_154 : decode cX1_converse 154 = .ok (.iconst 1, 1) := by decide +kernel
theorem dX1_converse_155 : decode cX1_converse 155 = .ok (.iadd, 1) := by decide +kernel
theorem dX1_converse_156 : decode cX1_converse 156 = .ok (.putfield 40, 3) := by decide +kernel
theorem dX1_converse_159 : decode cX1_converse 159 = .ok (.iload_n 1, 1) := by decide +kernel
theorem dX1_converse_160 : decode cX1_converse 160 = .ok (.ifCond .eq 13, 3) := by decide +kernel
theorem dX1_converse_163 : decode cX1_converse 163 = .ok (.aload_n 0, 1) := by decide +kernel
theorem dX1_converse_164 : decode cX1_converse 164 = .ok (.dup, 1) := by decide +kernel
theorem dX1_converse_165 : decode cX1_converse 165 = .ok (.getfield 43, 3) := by decide +kernel
theorem dX1_converse_168 : decode cX1_converse 168 = .ok (.iconst 1, 1) := by decide +kernel
theorem dX1_converse_169 : decode cX1_converse 169 = .ok (.iadd, 1) := by decide +kernel
theorem dX1_converse_170 : decode cX1_converse 170 = .ok (.putfield 43, 3) := by decide +kernel
theorem dX1_converse_173 : decode cX1_converse 173 = .ok (.return_, 1) := by decide +kernel
theorem dX1_signAt_0 : decode cX1_signAt 0 = .ok (.iload_n 0, 1) := by decide +kernel
theorem dX1_signAt_1 : decode cX1_signAt 1 = .ok (.ifCond .ne 5, 3) := by decide +kernel
theorem dX1_signAt_4 : decode cX1_signAt 4 = .ok (.iconst 1, 1) := by decide +kernel
theorem dX1_signAt_5 : decode cX1_signAt 5 = .ok (.ireturn, 1) := by decide +kernel
theorem dX1_signAt_6 : decode cX1_signAt 6 = .ok (.iload_n 0, 1) := by decide +kernel
theorem dX1_signAt_7 : decode cX1_signAt 7 = .ok (.bipush 9, 2) := by decide +kernel
theorem dX1_signAt_9 : decode cX1_signAt 9 = .ok (.if_icmp .ne 7, 3) := by decide +kernel
theorem dX1_signAt_12 : decode cX1_signAt 12 = .ok (.iconst (-1), 1) := by decide +kernel
theorem dX1_signAt_13 : decode cX1_signAt 13 = .ok (.goto 4, 3) := by decide +kernel
theorem dX1_signAt_16 : decode cX1_signAt 16 = .ok (.iload_n 1, 1) := by decide +kernel
theorem dX1_signAt_17 : decode cX1_signAt 17 = .ok (.ireturn, 1) := by decide +kernel
theorem dX2_init_0 : decode cX2_init 0 = .ok (.aload_n 0, 1) := by decide +kernel
theorem dX2_init_1 : decode cX2_init 1 = .ok (.invokespecial 3, 3) := by decide +kernel
theorem dX2_init_4 : decode cX2_init 4 = .ok (.aload_n 0, 1) := by decide +kernel
theorem dX2_init_5 : decode cX2_init 5 = .ok (.iconst 0, 1) := by decide +kernel
theorem dX2_init_6 : decode cX2_init 6 = .ok (.putfield 9, 3) := by decide +kernel
theorem dX2_init_9 : decode cX2_init 9 = .ok (.aload_n 0, 1) := by decide +kernel
theorem dX2_init_10 : decode cX2_init 10 = .ok (.iconst 0, 1) := by decide +kernel
theorem dX2_init_11 : decode cX2_init 11 = .ok (.putfield 15, 3) := by decide +kernel
theorem dX2_init_14 : decode cX2_init 14 = .ok (.aload_n 0, 1) := by decide +kernel
theorem dX2_init_15 : decode cX2_init 15 = .ok (.iconst 0, 1) := by decide +kernel
theorem dX2_init_16 : decode cX2_init 16 = .ok (.putfield 19, 3) := by decide +kernel
theorem dX2_init_19 : decode cX2_init 19 = .ok (.aload_n 0, 1) := by decide +kernel
theorem dX2_init_20 : decode cX2_init 20 = .ok (.iconst 0, 1) := by decide +kernel
theorem dX2_init_21 : decode cX2_init 21 = .ok (.putfield 22, 3) := by decide +kernel
theorem dX2_init_24 : decode cX2_init 24 = .ok (.aload_n 0, 1) := by decide +kernel
theorem dX2_init_25 : decode cX2_init 25 = .ok (.iconst 0, 1) := by decide +kernel
theorem dX2_init_26 : decode cX2_init 26 = .ok (.putfield 25, 3) := by decide +kernel
theorem dX2_init_29 : decode cX2_init 29 = .ok (.aload_n 0, 1) := by decide +kernel
theorem dX2_init_30 : decode cX2_init 30 = .ok (.iconst 0, 1) := by decide +kernel
theorem dX2_init_31 : decode cX2_init 31 = .ok (.putfield 28, 3) := by decide +kernel
theorem dX2_init_34 : decode cX2_init 34 = .ok (.aload_n 0, 1) := by decide +kernel
theorem dX2_init_35 : decode cX2_init 35 = .ok (.lconst 0, 1) := by decide +kernel
theorem dX2_init_36 : decode cX2_init 36 = .ok (.putfield 31, 3) := by decide +kernel
theorem dX2_init_39 : decode cX2_init 39 = .ok (.aload_n 0, 1) := by decide +kernel
theorem dX2_init_40 : decode cX2_init 40 = .ok (.lconst 0, 1) := by decide +kernel
theorem dX2_init_41 : decode cX2_init 41 = .ok (.putfield 35, 3) := by decide +kernel
theorem dX2_init_44 : decode cX2_init 44 = .ok (.aload_n 0, 1) := by decide +kernel
theorem dX2_init_45 : decode cX2_init 45 = .ok (.lconst 0, 1) := by decide +kernel
theorem dX2_init_46 : decode cX2_init 46 = .ok (.putfield 38, 3) := by decide +kernel
theorem dX2_init_49 : decode cX2_init 49 = .ok (.aload_n 0, 1) := by decide +kernel
theorem dX2_init_50 : decode cX2_init 50 = .ok (.iconst 0, 1) := by decide +kernel
theorem dX2_init_51 : decode cX2_init 51 = .ok (.putfield 41, 3) := by decide +kernel
theorem dX2_init_54 : decode cX2_init 54 = .ok (.aload_n 0, 1) := by decide +kernel
theorem dX2_init_55 : decode cX2_init 55 = .ok (.iconst 4, 1) := by decide +kernel
theorem dX2_init_56 : decode cX2_init 56 = .ok (.newarray .int, 2) := by decide +kernel
theorem dX2_init_58 : decode cX2_init 58 = .ok (.putfield 44, 3) := by decide +kernel
theorem dX2_init_61 : decode cX2_init 61 = .ok (.return_, 1) := by decide +kernel
theorem dX2_begin_0 : decode cX2_begin 0 = .ok (.aload_n 0, 1) := by decide +kernel
theorem dX2_begin_1 : decode cX2_begin 1 = .ok (.iload_n 1, 1) := by decide +kernel
theorem dX2_begin_2 : decode cX2_begin 2 = .ok (.putfield 9, 3) := by decide +kernel
theorem dX2_begin_5 : decode cX2_begin 5 = .ok (.aload_n 0, 1) := by decide +kernel
theorem dX2_begin_6 : decode cX2_begin 6 = .ok (.iload_n 2, 1) := by decide +kernel
theorem dX2_begin_7 : decode cX2_begin 7 = .ok (.putfield 15, 3) := by decide +kernel
theorem dX2_begin_10 : decode cX2_begin 10 = .ok (.aload_n 0, 1) := by decide +kernel
theorem dX2_begin_11 : decode cX2_begin 11 = .ok (.iconst 0, 1) := by decide +kernel
theorem dX2_begin_12 : decode cX2_begin 12 = .ok (.putfield 19, 3) := by decide +kernel
theorem dX2_begin_15 : decode cX2_begin 15 = .ok (.aload_n 0, 1) := by decide +kernel
theorem dX2_begin_16 : decode cX2_begin 16 = .ok (.iconst 0, 1) := by decide +kernel
theorem dX2_begin_17 : decode cX2_begin 17 = .ok (.putfield 22, 3) := by decide +kernel
theorem dX2_begin_20 : decode cX2_begin 20 = .ok (.aload_n 0, 1) := by decide +kernel
theorem dX2_begin_21 : decode cX2_begin 21 = .ok (.iconst 0, 1) := by decide +kernel
theorem dX2_begin_22 : decode cX2_begin 22 = .ok (.putfield 25, 3) := by decide +kernel
theorem dX2_begin_25 : decode cX2_begin 25 = .ok (.aload_n 0, 1) := by decide +kernel
theorem dX2_begin_26 : decode cX2_begin 26 = .ok (.iconst 0, 1) := by decide +kernel
theorem dX2_begin_27 : decode cX2_begin 27 = .ok (.putfield 28, 3) := by decide +kernel
theorem dX2_begin_30 : decode cX2_begin 30 = .ok (.aload_n 0, 1) := by decide +kernel
theorem dX2_begin_31 : decode cX2_begin 31 = .ok (.lconst 0, 1) := by decide +kernel
theorem dX2_begin_32 : decode cX2_begin 32 = .ok (.putfield 31, 3) := by decide +kernel
theorem dX2_begin_35 : decode cX2_begin 35 = .ok (.aload_n 0, 1) := by decide +kernel
theorem dX2_begin_36 : decode cX2_begin 36 = .ok (.lconst 0, 1) := by decide +kernel
theorem dX2_begin_37 : decode cX2_begin 37 = .ok (.putfield 35, 3) := by decide +kernel
theorem dX2_begin_40 : decode cX2_begin 40 = .ok (.aload_n 0, 1) := by decide +kernel
theorem dX2_begin_41 : decode cX2_begin 41 = .ok (.lconst 0, 1) := by decide +kernel
theorem dX2_begin_42 : decode cX2_begin 42 = .ok (.putfield 38, 3) := by decide +kernel
theorem dX2_begin_45 : decode cX2_begin 45 = .ok (.aload_n 0, 1) := by decide +kernel
theorem dX2_begin_46 : decode cX2_begin 46 = .ok (.iconst 0, 1) := by decide +kernel
theorem dX2_begin_47 : decode cX2_begin 47 = .ok (.putfield 41, 3) := by decide +kernel
theorem dX2_begin_50 : decode cX2_begin 50 = .ok (.return_, 1) := by decide +kernel
theorem dX2_flow_0 : decode cX2_flow 0 = .ok (.ldc2_w 48, 3) := by decide +kernel
theorem dX2_flow_3 : decode cX2_flow 3 = .ok (.ldc2_w 50, 3) := by decide +kernel
theorem dX2_flow_6 : decode cX2_flow 6 = .ok (.lload_n 1, 1) := by decide +kernel
theorem dX2_flow_7 : decode cX2_flow 7 = .ok (.invokestatic 52, 3) := by decide +kernel
theorem dX2_flow_10 : decode cX2_flow 10 = .ok (.invokestatic 58, 3) := by decide +kernel
theorem dX2_flow_13 : decode cX2_flow 13 = .ok (.lstore 4, 2) := by decide +kernel
theorem dX2_flow_15 : decode cX2_flow 15 = .ok (.lload 4, 2) := by decide +kernel
theorem dX2_flow_17 : decode cX2_flow 17 = .ok (.lload_n 1, 1) := by decide +kernel
theorem dX2_flow_18 : decode cX2_flow 18 = .ok (.lcmp, 1) := by decide +kernel
theorem dX2_flow_19 : decode cX2_flow 19 = .ok (.ifCond .eq 8, 3) := by decide +kernel
theorem dX2_flow_22 : decode cX2_flow 22 = .ok (.aload_n 0, 1) := by decide +kernel
theorem dX2_flow_23 : decode cX2_flow 23 = .ok (.iconst 1, 1) := by decide +kernel
theorem dX2_flow_24 : decode cX2_flow 24 = .ok (.putfield 19, 3) := by decide +kernel
theorem dX2_flow_27 : decode cX2_flow 27 = .ok (.aload_n 0, 1) := by decide +kernel
theorem dX2_flow_28 : decode cX2_flow 28 = .ok (.dup, 1) := by decide +kernel
theorem dX2_flow_29 : decode cX2_flow 29 = .ok (.getfield 38, 3) := by decide +kernel
theorem dX2_flow_32 : decode cX2_flow 32 = .ok (.lload 4, 2) := by decide +kernel
theorem dX2_flow_34 : decode cX2_flow 34 = .ok (.ladd, 1) := by decide +kernel
theorem dX2_flow_35 : decode cX2_flow 35 = .ok (.putfield 38, 3) := by decide +kernel
theorem dX2_flow_38 : decode cX2_flow 38 = .ok (.aload_n 0, 1) := by decide +kernel
theorem dX2_flow_39 : decode cX2_flow 39 = .ok (.dup, 1) := by decide +kernel
theorem dX2_flow_40 : decode cX2_flow 40 = .ok (.getfield 31, 3) := by decide +kernel
theorem dX2_flow_43 : decode cX2_flow 43 = .ok (.lload 4, 2) := by decide +kernel
theorem dX2_flow_45 : decode cX2_flow 45 = .ok (.ldc2_w 61, 3) := by decide +kernel
theorem dX2_flow_48 : decode cX2_flow 48 = .ok (.iload_n 3, 1) := by decide +kernel
theorem dX2_flow_49 : decode cX2_flow 49 = .ok (.i2l, 1) := by decide +kernel
theorem dX2_flow_50 : decode cX2_flow 50 = .ok (.lmul, 1) := by decide +kernel
theorem dX2_flow_51 : decode cX2_flow 51 = .ok (.ladd, 1) := by decide +kernel
theorem dX2_flow_52 : decode cX2_flow 52 = .ok (.ladd, 1) := by decide +kernel
theorem dX2_flow_53 : decode cX2_flow 53 = .ok (.putfield 31, 3) := by decide +kernel
theorem dX2_flow_56 : decode cX2_flow 56 = .ok (.iload_n 3, 1) := by decide +kernel
theorem dX2_flow_57 : decode cX2_flow 57 = .ok (.ifCond .le 16, 3) := by decide +kernel
theorem dX2_flow_60 : decode cX2_flow 60 = .ok (.aload_n 0, 1) := by decide +kernel
theorem dX2_flow_61 : decode cX2_flow 61 = .ok (.dup, 1) := by decide +kernel
theorem dX2_flow_62 : decode cX2_flow 62 = .ok (.getfield 22, 3) := by decide +kernel
theorem dX2_flow_65 : decode cX2_flow 65 = .ok (.iconst 1, 1) := by decide +kernel
theorem dX2_flow_66 : decode cX2_flow 66 = .ok (.iadd, 1) := by decide +kernel
theorem dX2_flow_67 : decode cX2_flow 67 = .ok (.putfield 22, 3) := by decide +kernel
theorem dX2_flow_70 : decode cX2_flow 70 = .ok (.goto 13, 3) := by decide +kernel
theorem dX2_flow_73 : decode cX2_flow 73 = .ok (.aload_n 0, 1) := by decide +kernel
theorem dX2_flow_74 : decode cX2_flow 74 = .ok (.dup, 1) := by decide +kernel
theorem dX2_flow_75 : decode cX2_flow 75 = .ok (.getfield 25, 3) := by decide +kernel
theorem dX2_flow_78 : decode cX2_flow 78 = .ok (.iconst 1, 1) := by decide +kernel
theorem dX2_flow_79 : decode cX2_flow 79 = .ok (.iadd, 1) := by decide +kernel
theorem dX2_flow_80 : decode cX2_flow 80 = .ok (.putfield 25, 3) := by decide +kernel
theorem dX2_flow_83 : decode cX2_flow 83 = .ok (.aload_n 0, 1) := by decide +kernel
theorem dX2_flow_84 : decode cX2_flow 84 = .ok (.getfield 41, 3) := by decide +kernel
theorem dX2_flow_87 : decode cX2_flow 87 = .ok (.ifCond .eq 21, 3) := by decide +kernel
theorem dX2_flow_90 : decode cX2_flow 90 = .ok (.aload_n 0, 1) := by decide +kernel
theorem dX2_flow_91 : decode cX2_flow 91 = .ok (.getfield 41, 3) := by decide +kernel
theorem dX2_flow_94 : decode cX2_flow 94 = .ok (.iload_n 3, 1) := by decide +kernel
theorem dX2_flow_95 : decode cX2_flow 95 = .ok (.if_icmp .eq 13, 3) := by decide +kernel
theorem dX2_flow_98 : decode cX2_flow 98 = .ok (.aload_n 0, 1) := by decide +kernel
theorem dX2_flow_99 : decode cX2_flow 99 = .ok (.dup, 1) := by decide +kernel
theorem dX2_flow_100 : decode cX2_flow 100 = .ok (.getfield 28, 3) := by decide +kernel
theorem dX2_flow_103 : decode cX2_flow 103 = .ok (.iconst 1, 1) := by decide +kernel
theorem dX2_flow_104 : decode cX2_flow 104 = .ok (.iadd, 1) := by decide +kernel
theorem dX2_flow_105 : decode cX2_flow 105 = .ok (.putfield 28, 3) := by decide +kernel
theorem dX2_flow_108 : decode cX2_flow 108 = .ok (.aload_n 0, 1) := by decide +kernel
theorem dX2_flow_109 : decode cX2_flow 109 = .ok (.iload_n 3, 1) := by decide +kernel
theorem dX2_flow_110 : decode cX2_flow 110 = .ok (.putfield 41, 3) := by decide +kernel
theorem dX2_flow_113 : decode cX2_flow 113 = .ok (.return_, 1) := by decide +kernel
set_option maxRecDepth 20000 in
theorem ggX2_runDown_X2_stepsOf : GoodIn wsX2_runDown wsX2_stepsOf := goodIn_r _ [11, 6, 12, 13, 14, 15, 16, 17, 18, 19, 20, 21, 22, 23, 24, 25, 26] (by decide +kernel) (by decide +kernel)
set_option maxRecDepth 20000 in
theorem gX2_runDown_X2_stepsOf : GoodIn wsX2_runDown (wsV RX2 67 RX2 yX2_stepsOf wsX2_stepsOf) := goodIn_app (goodIn_of _ (by decide +kernel)) ggX2_runDown_X2_stepsOf
theorem dX2_runDown_0 : decode cX2_runDown 0 = .ok (.lconst 0, 1) := by decide +kernel
theorem dX2_runDown_1 : decode cX2_runDown 1 = .ok (.lstore_n 1, 1) := by decide +kernel
theorem dX2_runDown_2 : decode cX2_runDown 2 = .ok (.aload_n 0, 1) := by decide +kernel
theorem dX2_runDown_3 : decode cX2_runDown 3 = .ok (.aload_n 0, 1) := by decide +kernel
theorem dX2_runDown_4 : decode cX2_runDown 4 = .ok (.getfield 22, 3) := by decide +kernel
theorem dX2_runDown_7 : decode cX2_runDown 7 = .ok (.aload_n 0, 1) := by decide +kernel
theorem dX2_runDown_8 : decode cX2_runDown 8 = .ok (.getfield 25, 3) := by decide +kernel
theorem dX2_runDown_11 : decode cX2_runDown 11 = .ok (.isub, 1) := by decide +kernel
theorem dX2_runDown_12 : decode cX2_runDown 12 = .ok (.ineg, 1) := by decide +kernel
theorem dX2_runDown_13 : decode cX2_runDown 13 = .ok (.i2l, 1) := by decide +kernel
theorem dX2_runDown_14 : decode cX2_runDown 14 = .ok (.ldc2_w 61, 3) := by decide +kernel
theorem dX2_runDown_17 : decode cX2_runDown 17 = .ok (.lmul, 1) := by decide +kernel
theorem dX2_runDown_18 : decode cX2_runDown 18 = .ok (.putfield 35, 3) := by decide +kernel
theorem dX2_runDown_21 : decode cX2_runDown 21 = .ok (.iconst 0, 1) := by decide +kernel
theorem dX2_runDown_22 : decode cX2_runDown 22 = .ok (.istore_n 3, 1) := by decide +kernel
theorem dX2_runDown_23 : decode cX2_runDown 23 = .ok (.iload_n 3, 1) := by decide +kernel
theorem dX2_runDown_24 : decode cX2_runDown 24 = .ok (.getstatic 63, 3) := by decide +kernel
theorem dX2_runDown_27 : decode cX2_runDown 27 = .ok (.arraylength, 1) := by decide +kernel
theorem dX2_runDown_28 : decode cX2_runDown 28 = .ok (.if_icmp .ge 94, 3) := by decide +kernel
theorem dX2_runDown_31 : decode cX2_runDown 31 = .ok (.iload_n 3, 1) := by decide +kernel
theorem dX2_runDown_32 : decode cX2_runDown 32 = .ok (.aload_n 0, 1) := by decide +kernel
theorem dX2_runDown_33 : decode cX2_runDown 33 = .ok (.getfield 44, 3) := by decide +kernel
theorem dX2_runDown_36 : decode cX2_runDown 36 = .ok (.arraylength, 1) := by decide +kernel
theorem dX2_runDown_37 : decode cX2_runDown 37 = .ok (.if_icmp .ge 85, 3) := by decide +kernel
theorem dX2_runDown_40 : decode cX2_runDown 40 = .ok (.getstatic 63, 3) := by decide +kernel
theorem dX2_runDown_43 : decode cX2_runDown 43 = .ok (.iload_n 3, 1) := by decide +kernel
theorem dX2_runDown_44 : decode cX2_runDown 44 = .ok (.laload, 1) := by decide +kernel
theorem dX2_runDown_45 : decode cX2_runDown 45 = .ok (.lstore 4, 2) := by decide +kernel
theorem dX2_runDown_47 : decode cX2_runDown 47 = .ok (.aload_n 0, 1) := by decide +kernel
theorem dX2_runDown_48 : decode cX2_runDown 48 = .ok (.lload 4, 2) := by decide +kernel
theorem dX2_runDown_50 : decode cX2_runDown 50 = .ok (.invokevirtual 67, 3) := by decide +kernel
theorem dX2_runDown_53 : decode cX2_runDown 53 = .ok (.lstore 6, 2) := by decide +kernel
theorem dX2_runDown_55 : decode cX2_runDown 55 = .ok (.aload_n 0, 1) := by decide +kernel
theorem dX2_runDown_56 : decode cX2_runDown 56 = .ok (.getfield 31, 3) := by decide +kernel
theorem dX2_runDown_59 : decode cX2_runDown 59 = .ok (.lconst 0, 1) := by decide +kernel
theorem dX2_runDown_60 : decode cX2_runDown 60 = .ok (.lcmp, 1) := by decide +kernel
theorem dX2_runDown_61 : decode cX2_runDown 61 = .ok (.ifCond .le 9, 3) := by decide +kernel
theorem dX2_runDown_64 : decode cX2_runDown 64 = .ok (.lload 6, 2) := by decide +kernel
theorem dX2_runDown_66 : decode cX2_runDown 66 = .ok (.lneg, 1) := by decide +kernel
theorem dX2_runDown_67 : decode cX2_runDown 67 = .ok (.goto 5, 3) := by decide +kernel
theorem dX2_runDown_70 : decode cX2_runDown 70 = .ok (.lload 6, 2) := by decide +kernel
theorem dX2_runDown_72 : decode cX2_runDown 72 = .ok (.lstore 8, 2) := by decide +kernel
theorem dX2_runDown_74 : decode cX2_runDown 74 = .ok (.aload_n 0, 1) := by decide +kernel
theorem dX2_runDown_75 : decode cX2_runDown 75 = .ok (.getfield 44, 3) := by decide +kernel
theorem dX2_runDown_78 : decode cX2_runDown 78 = .ok (.iload_n 3, 1) := by decide +kernel
theorem dX2_runDown_79 : decode cX2_runDown 79 = .ok (.lload 8, 2) := by decide +kernel
theorem dX2_runDown_81 : decode cX2_runDown 81 = .ok (.l2i, 1) := by decide +kernel
theorem dX2_runDown_82 : decode cX2_runDown 82 = .ok (.iastore, 1) := by decide +kernel
theorem dX2_runDown_83 : decode cX2_runDown 83 = .ok (.aload_n 0, 1) := by decide +kernel
theorem dX2_runDown_84 : decode cX2_runDown 84 = .ok (.dup, 1) := by decide +kernel
theorem dX2_runDown_85 : decode cX2_runDown 85 = .ok (.getfield 31, 3) := by decide +kernel
theorem dX2_runDown_88 : decode cX2_runDown 88 = .ok (.lload 8, 2) := by decide +kernel
theorem dX2_runDown_90 : decode cX2_runDown 90 = .ok (.lload 4, 2) := by decide +kernel
theorem dX2_runDown_92 : decode cX2_runDown 92 = .ok (.lmul, 1) := by decide +kernel
theorem dX2_runDown_93 : decode cX2_runDown 93 = .ok (.ladd, 1) := by decide +kernel
theorem dX2_runDown_94 : decode cX2_runDown 94 = .ok (.putfield 31, 3) := by decide +kernel
theorem dX2_runDown_97 : decode cX2_runDown 97 = .ok (.aload_n 0, 1) := by decide +kernel
theorem dX2_runDown_98 : decode cX2_runDown 98 = .ok (.dup, 1) := by decide +kernel
theorem dX2_runDown_99 : decode cX2_runDown 99 = .ok (.getfield 35, 3) := by decide +kernel
theorem dX2_runDown_102 : decode cX2_runDown 102 = .ok (.lload 8, 2) := by decide +kernel
theorem dX2_runDown_104 : decode cX2_runDown 104 = .ok (.lload 4, 2) := by decide +kernel
theorem dX2_runDown_106 : decode cX2_runDown 106 = .ok (.lmul, 1) := by decide +kernel
theorem dX2_runDown_107 : decode cX2_runDown 107 = .ok (.lsub, 1) := by decide +kernel
theorem dX2_runDown_108 : decode cX2_runDown 108 = .ok (.putfield 35, 3) := by decide +kernel
theorem dX2_runDown_111 : decode cX2_runDown 111 = .ok (.lload_n 1, 1) := by decide +kernel
theorem dX2_runDown_112 : decode cX2_runDown 112 = .ok (.lload 6, 2) := by decide +kernel
theorem dX2_runDown_114 : decode cX2_runDown 114 = .ok (.ladd, 1) := by decide +kernel
theorem dX2_runDown_115 : decode cX2_runDown 115 = .ok (.lstore_n 1, 1) := by decide +kernel
theorem dX2_runDown_116 : decode cX2_runDown 116 = .ok (.iinc 3 1, 3) := by decide +kernel
theorem dX2_runDown_119 : decode cX2_runDown 119 = .ok (.goto (-96), 3) := by decide +kernel
theorem dX2_runDown_122 : decode cX2_runDown 122 = .ok (.lload_n 1, 1) := by decide +kernel
theorem dX2_runDown_123 : decode cX2_runDown 123 = .ok (.lreturn, 1) := by decide +kernel
theorem dX2_stepsOf_0 : decode cX2_stepsOf 0 = .ok (.lload_n 1, 1) := by decide +kernel
theorem dX2_stepsOf_1 : decode cX2_stepsOf 1 = .ok (.lconst 0, 1) := by decide +kernel
theorem dX2_stepsOf_2 : decode cX2_stepsOf 2 = .ok (.lcmp, 1) := by decide +kernel
theorem dX2_stepsOf_3 : decode cX2_stepsOf 3 = .ok (.ifCond .le 19, 3) := by decide +kernel
theorem dX2_stepsOf_6 : decode cX2_stepsOf 6 = .ok (.aload_n 0, 1) := by decide +kernel
theorem dX2_stepsOf_7 : decode cX2_stepsOf 7 = .ok (.getfield 31, 3) := by decide +kernel
theorem dX2_stepsOf_10 : decode cX2_stepsOf 10 = .ok (.invokestatic 71, 3) := by decide +kernel
theorem dX2_stepsOf_13 : decode cX2_stepsOf 13 = .ok (.lload_n 1, 1) := by decide +kernel
theorem dX2_stepsOf_14 : decode cX2_stepsOf 14 = .ok (.ladd, 1) := by decide +kernel
theorem dX2_stepsOf_15 : decode cX2_stepsOf 15 = .ok (.lconst 1, 1) := by decide +kernel
theorem dX2_stepsOf_16 : decode cX2_stepsOf 16 = .ok (.lsub, 1) := by decide +kernel
theorem dX2_stepsOf_17 : decode cX2_stepsOf 17 = .ok (.lload_n 1, 1) := by decide +kernel
theorem dX2_stepsOf_18 : decode cX2_stepsOf 18 = .ok (.ldiv, 1) := by decide +kernel
theorem dX2_stepsOf_19 : decode cX2_stepsOf 19 = .ok (.goto 4, 3) := by decide +kernel
theorem dX2_stepsOf_22 : decode cX2_stepsOf 22 = .ok (.lconst 0, 1) := by decide +kernel
theorem dX2_stepsOf_23 : decode cX2_stepsOf 23 = .ok (.lreturn, 1) := by decide +kernel
theorem dX2_error_0 : decode cX2_error 0 = .ok (.aload_n 0, 1) := by decide +kernel
theorem dX2_error_1 : decode cX2_error 1 = .ok (.getfield 35, 3) := by decide +kernel
theorem dX2_error_4 : decode cX2_error 4 = .ok (.aload_n 0, 1) := by decide +kernel
theorem dX2_error_5 : decode cX2_error 5 = .ok (.getfield 38, 3) := by decide +kernel
theorem dX2_error_8 : decode cX2_error 8 = .ok (.lsub, 1) := by decide +kernel
theorem dX2_error_9 : decode cX2_error 9 = .ok (.invokestatic 71, 3) := by decide +kernel
theorem dX2_error_12 : decode cX2_error 12 = .ok (.lreturn, 1) := by decide +kernel
set_option maxRecDepth 20000 in
theorem ggX2_part_X9_flag : GoodIn wsX2_part wsX9_flag := goodIn_r _ [13] (by decide +kernel) (by decide +kernel)
set_option maxRecDepth 20000 in
theorem gX2_part_X9_flag_n74 : GoodIn wsX2_part (wsX9_flag) := ggX2_part_X9_flag
set_option maxRecDepth 20000 in
theorem ggX2_part_X2_slopeCount : GoodIn wsX2_part wsX2_slopeCount := goodIn_r _ [18, 19, 20, 21, 22, 23, 24, 25, 26, 27, 28, 29, 30, 31] (by decide +kernel) (by decide +kernel)
set_option maxRecDepth 20000 in
theorem gX2_part_X2_slopeCount : GoodIn wsX2_part (wsV RX2 80 RX2 yX2_slopeCount wsX2_slopeCount) := goodIn_app (goodIn_of _ (by decide +kernel)) ggX2_part_X2_slopeCount
theorem dX2_part_0 : decode cX2_part 0 = .ok (.iload_n 1, 1) := by decide +kernel
theorem dX2_part_1 : decode cX2_part 1 = .ok (.tableswitch 157 0 14 #[75, 80, 85, 157, 157, 157, 157, 90, 96, 104, 114, 124, 134, 144, 152], 75) := by decide +kernel
theorem dX2_part_76 : decode cX2_part 76 = .ok (.aload_n 0, 1) := by decide +kernel
theorem dX2_part_77 : decode cX2_part 77 = .ok (.getfield 22, 3) := by decide +kernel
theorem dX2_part_80 : decode cX2_part 80 = .ok (.ireturn, 1) := by decide +kernel
theorem dX2_part_81 : decode cX2_part 81 = .ok (.aload_n 0, 1) := by decide +kernel
theorem dX2_part_82 : decode cX2_part 82 = .ok (.getfield 25, 3) := by decide +kernel
theorem dX2_part_85 : decode cX2_part 85 = .ok (.ireturn, 1) := by decide +kernel
theorem dX2_part_86 : decode cX2_part 86 = .ok (.aload_n 0, 1) := by decide +kernel
theorem dX2_part_87 : decode cX2_part 87 = .ok (.getfield 28, 3) := by decide +kernel
theorem dX2_part_90 : decode cX2_part 90 = .ok (.ireturn, 1) := by decide +kernel
theorem dX2_part_91 : decode cX2_part 91 = .ok (.aload_n 0, 1) := by decide +kernel
theorem dX2_part_92 : decode cX2_part 92 = .ok (.getfield 31, 3) := by decide +kernel
theorem dX2_part_95 : decode cX2_part 95 = .ok (.l2i, 1) := by decide +kernel
theorem dX2_part_96 : decode cX2_part 96 = .ok (.ireturn, 1) := by decide +kernel
theorem dX2_part_97 : decode cX2_part 97 = .ok (.aload_n 0, 1) := by decide +kernel
theorem dX2_part_98 : decode cX2_part 98 = .ok (.getfield 19, 3) := by decide +kernel
theorem dX2_part_101 : decode cX2_part 101 = .ok (.invokestatic 74, 3) := by decide +kernel
theorem dX2_part_104 : decode cX2_part 104 = .ok (.ireturn, 1) := by decide +kernel
theorem dX2_part_105 : decode cX2_part 105 = .ok (.aload_n 0, 1) := by decide +kernel
theorem dX2_part_106 : decode cX2_part 106 = .ok (.getfield 35, 3) := by decide +kernel
theorem dX2_part_109 : decode cX2_part 109 = .ok (.ldc2_w 78, 3) := by decide +kernel
theorem dX2_part_112 : decode cX2_part 112 = .ok (.ldiv, 1) := by decide +kernel
theorem dX2_part_113 : decode cX2_part 113 = .ok (.l2i, 1) := by decide +kernel
theorem dX2_part_114 : decode cX2_part 114 = .ok (.ireturn, 1) := by decide +kernel
theorem dX2_part_115 : decode cX2_part 115 = .ok (.aload_n 0, 1) := by decide +kernel
theorem dX2_part_116 : decode cX2_part 116 = .ok (.getfield 35, 3) := by decide +kernel
theorem dX2_part_119 : decode cX2_part 119 = .ok (.ldc2_w 78, 3) := by decide +kernel
theorem dX2_part_122 : decode cX2_part 122 = .ok (.lrem, 1) := by decide +kernel
theorem dX2_part_123 : decode cX2_part 123 = .ok (.l2i, 1) := by decide +kernel
theorem dX2_part_124 : decode cX2_part 124 = .ok (.ireturn, 1) := by decide +kernel
theorem dX2_part_125 : decode cX2_part 125 = .ok (.aload_n 0, 1) := by decide +kernel
theorem dX2_part_126 : decode cX2_part 126 = .ok (.getfield 38, 3) := by decide +kernel
theorem dX2_part_129 : decode cX2_part 129 = .ok (.ldc2_w 78, 3) := by decide +kernel
theorem dX2_part_132 : decode cX2_part 132 = .ok (.ldiv, 1) := by decide +kernel
theorem dX2_part_133 : decode cX2_part 133 = .ok (.l2i, 1) := by decide +kernel
theorem dX2_part_134 : decode cX2_part 134 = .ok (.ireturn, 1) := by decide +kernel
theorem dX2_part_135 : decode cX2_part 135 = .ok (.aload_n 0, 1) := by decide +kernel
theorem dX2_part_136 : decode cX2_part 136 = .ok (.getfield 38, 3) := by decide +kernel
theorem dX2_part_139 : decode cX2_part 139 = .ok (.ldc2_w 78, 3) := by decide +kernel
theorem dX2_part_142 : decode cX2_part 142 = .ok (.lrem, 1) := by decide +kernel
theorem dX2_part_143 : decode cX2_part 143 = .ok (.l2i, 1) := by decide +kernel
theorem dX2_part_144 : decode cX2_part 144 = .ok (.ireturn, 1) := by decide +kernel
theorem dX2_part_145 : decode cX2_part 145 = .ok (.aload_n 0, 1) := by decide +kernel
theorem dX2_part_146 : decode cX2_part 146 = .ok (.getfield 9, 3) := by decide +kernel
theorem dX2_part_149 : decode cX2_part 149 = .ok (.invokestatic 74, 3) := by decide +kernel
theorem dX2_part_152 : decode cX2_part 152 = .ok (.ireturn, 1) := by decide +kernel
theorem dX2_part_153 : decode cX2_part 153 = .ok (.aload_n 0, 1) := by decide +kernel
theorem dX2_part_154 : decode cX2_part 154 = .ok (.getfield 15, 3) := by decide +kernel
theorem dX2_part_157 : decode cX2_part 157 = .ok (.ireturn, 1) := by decide +kernel
theorem dX2_part_158 : decode cX2_part 158 = .ok (.aload_n 0, 1) := by decide +kernel
theorem dX2_part_159 : decode cX2_part 159 = .ok (.iload_n 1, 1) := by decide +kernel
theorem dX2_part_160 : decode cX2_part 160 = .ok (.iconst 3, 1) := by decide +kernel
theorem dX2_part_161 : decode cX2_part 161 = .ok (.isub, 1) := by decide +kernel
theorem dX2_part_162 : decode cX2_part 162 = .ok (.invokevirtual 80, 3) := by decide +kernel
theorem dX2_part_165 : decode cX2_part 165 = .ok (.ireturn, 1) := by decide +kernel
theorem dX2_slopeCount_0 : decode cX2_slopeCount 0 = .ok (.iload_n 1, 1) := by decide +kernel
theorem dX2_slopeCount_1 : decode cX2_slopeCount 1 = .ok (.ifCond .lt 21, 3) := by decide +kernel
theorem dX2_slopeCount_4 : decode cX2_slopeCount 4 = .ok (.iload_n 1, 1) := by decide +kernel
theorem dX2_slopeCount_5 : decode cX2_slopeCount 5 = .ok (.aload_n 0, 1) := by decide +kernel
theorem dX2_slopeCount_6 : decode cX2_slopeCount 6 = .ok (.getfield 44, 3) := by decide +kernel
theorem dX2_slopeCount_9 : decode cX2_slopeCount 9 = .ok (.arraylength, 1) := by decide +kernel
theorem dX2_slopeCount_10 : decode cX2_slopeCount 10 = .ok (.if_icmp .ge 12, 3) := by decide +kernel
theorem dX2_slopeCount_13 : decode cX2_slopeCount 13 = .ok (.aload_n 0, 1) := by decide +kernel
theorem dX2_slopeCount_14 : decode cX2_slopeCount 14 = .ok (.getfield 44, 3) := by decide +kernel
theorem dX2_slopeCount_17 : decode cX2_slopeCount 17 = .ok (.iload_n 1, 1) := by decide +kernel
theorem dX2_slopeCount_18 : decode cX2_slopeCount 18 = .ok (.iaload, 1) := by decide +kernel
theorem dX2_slopeCount_19 : decode cX2_slopeCount 19 = .ok (.goto 5, 3) := by decide +kernel
theorem dX2_slopeCount_22 : decode cX2_slopeCount 22 = .ok (.ldc 84, 2) := by decide +kernel
theorem dX2_slopeCount_24 : decode cX2_slopeCount 24 = .ok (.ireturn, 1) := by decide +kernel
theorem dX3_init_0 : decode cX3_init 0 = .ok (.aload_n 0, 1) := by decide +kernel
theorem dX3_init_1 : decode cX3_init 1 = .ok (.invokespecial 3, 3) := by decide +kernel
theorem dX3_init_4 : decode cX3_init 4 = .ok (.aload_n 0, 1) := by decide +kernel
theorem dX3_init_5 : decode cX3_init 5 = .ok (.bipush 96, 2) := by decide +kernel
theorem dX3_init_7 : decode cX3_init 7 = .ok (.newarray .int, 2) := by decide +kernel
theorem dX3_init_9 : decode cX3_init 9 = .ok (.putfield 11, 3) := by decide +kernel
theorem dX3_init_12 : decode cX3_init 12 = .ok (.aload_n 0, 1) := by decide +kernel
theorem dX3_init_13 : decode cX3_init 13 = .ok (.iconst 0, 1) := by decide +kernel
theorem dX3_init_14 : decode cX3_init 14 = .ok (.putfield 15, 3) := by decide +kernel
theorem dX3_init_17 : decode cX3_init 17 = .ok (.aload_n 0, 1) := by decide +kernel
theorem dX3_init_18 : decode cX3_init 18 = .ok (.iconst 0, 1) := by decide +kernel
theorem dX3_init_19 : decode cX3_init 19 = .ok (.putfield 19, 3) := by decide +kernel
theorem dX3_init_22 : decode cX3_init 22 = .ok (.return_, 1) := by decide +kernel
set_option maxRecDepth 20000 in
theorem ggX3_note_X3_put : GoodIn wsX3_note wsX3_put := goodIn_r _ [8, 9, 13, 14, 15] (by decide +kernel) (by decide +kernel)
set_option maxRecDepth 20000 in
theorem gX3_note_X3_put : GoodIn wsX3_note (wsV RX3 22 RX3 yX3_put wsX3_put) := goodIn_app (goodIn_of _ (by decide +kernel)) ggX3_note_X3_put
set_option maxRecDepth 20000 in
theorem ggX3_note_X9_flag : GoodIn wsX3_note wsX9_flag := goodIn_r _ [12] (by decide +kernel) (by decide +kernel)
set_option maxRecDepth 20000 in
theorem gX3_note_X9_flag_n28 : GoodIn wsX3_note (wsX9_flag) := ggX3_note_X9_flag
theorem dX3_note_0 : decode cX3_note 0 = .ok (.aload_n 0, 1) := by decide +kernel
theorem dX3_note_1 : decode cX3_note 1 = .ok (.getfield 15, 3) := by decide +kernel
theorem dX3_note_4 : decode cX3_note 4 = .ok (.bipush 12, 2) := by decide +kernel
theorem dX3_note_6 : decode cX3_note 6 = .ok (.irem, 1) := by decide +kernel
theorem dX3_note_7 : decode cX3_note 7 = .ok (.istore 8, 2) := by decide +kernel
theorem dX3_note_9 : decode cX3_note 9 = .ok (.aload_n 0, 1) := by decide +kernel
theorem dX3_note_10 : decode cX3_note 10 = .ok (.dup, 1) := by decide +kernel
theorem dX3_note_11 : decode cX3_note 11 = .ok (.getfield 15, 3) := by decide +kernel
theorem dX3_note_14 : decode cX3_note 14 = .ok (.iconst 1, 1) := by decide +kernel
theorem dX3_note_15 : decode cX3_note 15 = .ok (.iadd, 1) := by decide +kernel
theorem dX3_note_16 : decode cX3_note 16 = .ok (.putfield 15, 3) := by decide +kernel
theorem dX3_note_19 : decode cX3_note 19 = .ok (.iload 4, 2) := by decide +kernel
theorem dX3_note_21 : decode cX3_note 21 = .ok (.ifCond .eq 13, 3) := by decide +kernel
theorem dX3_note_24 : decode cX3_note 24 = .ok (.aload_n 0, 1) := by decide +kernel
theorem dX3_note_25 : decode cX3_note 25 = .ok (.dup, 1) := by decide +kernel
theorem dX3_note_26 : decode cX3_note 26 = .ok (.getfield 19, 3) := by decide +kernel
theorem dX3_note_29 : decode cX3_note 29 = .ok (.iconst 1, 1) := by decide +kernel
theorem dX3_note_30 : decode cX3_note 30 = .ok (.iadd, 1) := by decide +kernel
theorem dX3_note_31 : decode cX3_note 31 = .ok (.putfield 19, 3) := by decide +kernel
theorem dX3_note_34 : decode cX3_note 34 = .ok (.aload_n 0, 1) := by decide +kernel
theorem dX3_note_35 : decode cX3_note 35 = .ok (.iload 8, 2) := by decide +kernel
theorem dX3_note_37 : decode cX3_note 37 = .ok (.iconst 0, 1) := by decide +kernel
theorem dX3_note_38 : decode cX3_note 38 = .ok (.aload_n 0, 1) := by decide +kernel
theorem dX3_note_39 : decode cX3_note 39 = .ok (.getfield 15, 3) := by decide +kernel
theorem dX3_note_42 : decode cX3_note 42 = .ok (.invokevirtual 22, 3) := by decide +kernel
theorem dX3_note_45 : decode cX3_note 45 = .ok (.aload_n 0, 1) := by decide +kernel
theorem dX3_note_46 : decode cX3_note 46 = .ok (.iload 8, 2) := by decide +kernel
theorem dX3_note_48 : decode cX3_note 48 = .ok (.iconst 1, 1) := by decide +kernel
theorem dX3_note_49 : decode cX3_note 49 = .ok (.lload_n 1, 1) := by decide +kernel
theorem dX3_note_50 : decode cX3_note 50 = .ok (.ldc2_w 26, 3) := by decide +kernel
theorem dX3_note_53 : decode cX3_note 53 = .ok (.ldiv, 1) := by decide +kernel
theorem dX3_note_54 : decode cX3_note 54 = .ok (.l2i, 1) := by decide +kernel
theorem dX3_note_55 : decode cX3_note 55 = .ok (.invokevirtual 22, 3) := by decide +kernel
theorem dX3_note_58 : decode cX3_note 58 = .ok (.aload_n 0, 1) := by decide +kernel
theorem dX3_note_59 : decode cX3_note 59 = .ok (.iload 8, 2) := by decide +kernel
theorem dX3_note_61 : decode cX3_note 61 = .ok (.iconst 2, 1) := by decide +kernel
theorem dX3_note_62 : decode cX3_note 62 = .ok (.lload_n 1, 1) := by decide +kernel
theorem dX3_note_63 : decode cX3_note 63 = .ok (.ldc2_w 26, 3) := by decide +kernel
theorem dX3_note_66 : decode cX3_note 66 = .ok (.lrem, 1) := by decide +kernel
theorem dX3_note_67 : decode cX3_note 67 = .ok (.l2i, 1) := by decide +kernel
theorem dX3_note_68 : decode cX3_note 68 = .ok (.invokevirtual 22, 3) := by decide +kernel
theorem dX3_note_71 : decode cX3_note 71 = .ok (.aload_n 0, 1) := by decide +kernel
theorem dX3_note_72 : decode cX3_note 72 = .ok (.iload 8, 2) := by decide +kernel
theorem dX3_note_74 : decode cX3_note 74 = .ok (.iconst 3, 1) := by decide +kernel
theorem dX3_note_75 : decode cX3_note 75 = .ok (.iload_n 3, 1) := by decide +kernel
theorem dX3_note_76 : decode cX3_note 76 = .ok (.invokevirtual 22, 3) := by decide +kernel
theorem dX3_note_79 : decode cX3_note 79 = .ok (.aload_n 0, 1) := by decide +kernel
theorem dX3_note_80 : decode cX3_note 80 = .ok (.iload 8, 2) := by decide +kernel
theorem dX3_note_82 : decode cX3_note 82 = .ok (.iconst 4, 1) := by decide +kernel
theorem dX3_note_83 : decode cX3_note 83 = .ok (.iload 4, 2) := by decide +kernel
theorem dX3_note_85 : decode cX3_note 85 = .ok (.invokestatic 28, 3) := by decide +kernel
theorem dX3_note_88 : decode cX3_note 88 = .ok (.invokevirtual 22, 3) := by decide +kernel
theorem dX3_note_91 : decode cX3_note 91 = .ok (.aload_n 0, 1) := by decide +kernel
theorem dX3_note_92 : decode cX3_note 92 = .ok (.iload 8, 2) := by decide +kernel
theorem dX3_note_94 : decode cX3_note 94 = .ok (.iconst 5, 1) := by decide +kernel
theorem dX3_note_95 : decode cX3_note 95 = .ok (.iload 5, 2) := by decide +kernel
theorem dX3_note_97 : decode cX3_note 97 = .ok (.invokevirtual 22, 3) := by decide +kernel
theorem dX3_note_100 : decode cX3_note 100 = .ok (.aload_n 0, 1) := by decide +kernel
theorem dX3_note_101 : decode cX3_note 101 = .ok (.iload 8, 2) := by decide +kernel
theorem dX3_note_103 : decode cX3_note 103 = .ok (.bipush 6, 2) := by decide +kernel
theorem dX3_note_105 : decode cX3_note 105 = .ok (.iload 6, 2) := by decide +kernel
theorem dX3_note_107 : decode cX3_note 107 = .ok (.invokestatic 28, 3) := by decide +kernel
theorem dX3_note_110 : decode cX3_note 110 = .ok (.invokevirtual 22, 3) := by decide +kernel
theorem dX3_note_113 : decode cX3_note 113 = .ok (.aload_n 0, 1) := by decide +kernel
theorem dX3_note_114 : decode cX3_note 114 = .ok (.iload 8, 2) := by decide +kernel
theorem dX3_note_116 : decode cX3_note 116 = .ok (.bipush 7, 2) := by decide +kernel
theorem dX3_note_118 : decode cX3_note 118 = .ok (.iload 7, 2) := by decide +kernel
theorem dX3_note_120 : decode cX3_note 120 = .ok (.invokevirtual 22, 3) := by decide +kernel
theorem dX3_note_123 : decode cX3_note 123 = .ok (.return_, 1) := by decide +kernel
theorem dX3_put_0 : decode cX3_put 0 = .ok (.iload_n 1, 1) := by decide +kernel
theorem dX3_put_1 : decode cX3_put 1 = .ok (.bipush 8, 2) := by decide +kernel
theorem dX3_put_3 : decode cX3_put 3 = .ok (.imul, 1) := by decide +kernel
theorem dX3_put_4 : decode cX3_put 4 = .ok (.iload_n 2, 1) := by decide +kernel
theorem dX3_put_5 : decode cX3_put 5 = .ok (.iadd, 1) := by decide +kernel
theorem dX3_put_6 : decode cX3_put 6 = .ok (.istore 4, 2) := by decide +kernel
theorem dX3_put_8 : decode cX3_put 8 = .ok (.iload 4, 2) := by decide +kernel
theorem dX3_put_10 : decode cX3_put 10 = .ok (.ifCond .lt 21, 3) := by decide +kernel
theorem dX3_put_13 : decode cX3_put 13 = .ok (.iload 4, 2) := by decide +kernel
theorem dX3_put_15 : decode cX3_put 15 = .ok (.aload_n 0, 1) := by decide +kernel
theorem dX3_put_16 : decode cX3_put 16 = .ok (.getfield 11, 3) := by decide +kernel
theorem dX3_put_19 : decode cX3_put 19 = .ok (.arraylength, 1) := by decide +kernel
theorem dX3_put_20 : decode cX3_put 20 = .ok (.if_icmp .ge 11, 3) := by decide +kernel
theorem dX3_put_23 : decode cX3_put 23 = .ok (.aload_n 0, 1) := by decide +kernel
theorem dX3_put_24 : decode cX3_put 24 = .ok (.getfield 11, 3) := by decide +kernel
theorem dX3_put_27 : decode cX3_put 27 = .ok (.iload 4, 2) := by decide +kernel
theorem dX3_put_29 : decode cX3_put 29 = .ok (.iload_n 3, 1) := by decide +kernel
theorem dX3_put_30 : decode cX3_put 30 = .ok (.iastore, 1) := by decide +kernel
theorem dX3_put_31 : decode cX3_put 31 = .ok (.return_, 1) := by decide +kernel
theorem dX3_kept_0 : decode cX3_kept 0 = .ok (.aload_n 0, 1) := by decide +kernel
theorem dX3_kept_1 : decode cX3_kept 1 = .ok (.getfield 15, 3) := by decide +kernel
theorem dX3_kept_4 : decode cX3_kept 4 = .ok (.bipush 12, 2) := by decide +kernel
theorem dX3_kept_6 : decode cX3_kept 6 = .ok (.invokestatic 32, 3) := by decide +kernel
theorem dX3_kept_9 : decode cX3_kept 9 = .ok (.ireturn, 1) := by decide +kernel
theorem dX3_part_0 : decode cX3_part 0 = .ok (.aload_n 0, 1) := by decide +kernel
theorem dX3_part_1 : decode cX3_part 1 = .ok (.getfield 15, 3) := by decide +kernel
theorem dX3_part_4 : decode cX3_part 4 = .ok (.iconst 1, 1) := by decide +kernel
theorem dX3_part_5 : decode cX3_part 5 = .ok (.isub, 1) := by decide +kernel
theorem dX3_part_6 : decode cX3_part 6 = .ok (.iload_n 1, 1) := by decide +kernel
theorem dX3_part_7 : decode cX3_part 7 = .ok (.isub, 1) := by decide +kernel
theorem dX3_part_8 : decode cX3_part 8 = .ok (.bipush 12, 2) := by decide +kernel
theorem dX3_part_10 : decode cX3_part 10 = .ok (.irem, 1) := by decide +kernel
theorem dX3_part_11 : decode cX3_part 11 = .ok (.bipush 8, 2) := by decide +kernel
theorem dX3_part_13 : decode cX3_part 13 = .ok (.imul, 1) := by decide +kernel
theorem dX3_part_14 : decode cX3_part 14 = .ok (.iload_n 2, 1) := by decide +kernel
theorem dX3_part_15 : decode cX3_part 15 = .ok (.iadd, 1) := by decide +kernel
theorem dX3_part_16 : decode cX3_part 16 = .ok (.istore_n 3, 1) := by decide +kernel
theorem dX3_part_17 : decode cX3_part 17 = .ok (.iload_n 3, 1) := by decide +kernel
theorem dX3_part_18 : decode cX3_part 18 = .ok (.ifCond .lt 21, 3) := by decide +kernel
theorem dX3_part_21 : decode cX3_part 21 = .ok (.iload_n 3, 1) := by decide +kernel
theorem dX3_part_22 : decode cX3_part 22 = .ok (.aload_n 0, 1) := by decide +kernel
theorem dX3_part_23 : decode cX3_part 23 = .ok (.getfield 11, 3) := by decide +kernel
theorem dX3_part_26 : decode cX3_part 26 = .ok (.arraylength, 1) := by decide +kernel
theorem dX3_part_27 : decode cX3_part 27 = .ok (.if_icmp .ge 12, 3) := by decide +kernel
theorem dX3_part_30 : decode cX3_part 30 = .ok (.aload_n 0, 1) := by decide +kernel
theorem dX3_part_31 : decode cX3_part 31 = .ok (.getfield 11, 3) := by decide +kernel
theorem dX3_part_34 : decode cX3_part 34 = .ok (.iload_n 3, 1) := by decide +kernel
theorem dX3_part_35 : decode cX3_part 35 = .ok (.iaload, 1) := by decide +kernel
theorem dX3_part_36 : decode cX3_part 36 = .ok (.goto 5, 3) := by decide +kernel
theorem dX3_part_39 : decode cX3_part 39 = .ok (.ldc 38, 2) := by decide +kernel
theorem dX3_part_41 : decode cX3_part 41 = .ok (.ireturn, 1) := by decide +kernel
theorem dX4_init_0 : decode cX4_init 0 = .ok (.aload_n 0, 1) := by decide +kernel
theorem dX4_init_1 : decode cX4_init 1 = .ok (.invokespecial 3, 3) := by decide +kernel
theorem dX4_init_4 : decode cX4_init 4 = .ok (.aload_n 0, 1) := by decide +kernel
theorem dX4_init_5 : decode cX4_init 5 = .ok (.bipush 16, 2) := by decide +kernel
theorem dX4_init_7 : decode cX4_init 7 = .ok (.newarray .long, 2) := by decide +kernel
theorem dX4_init_9 : decode cX4_init 9 = .ok (.putfield 9, 3) := by decide +kernel
theorem dX4_init_12 : decode cX4_init 12 = .ok (.aload_n 0, 1) := by decide +kernel
theorem dX4_init_13 : decode cX4_init 13 = .ok (.iconst 0, 1) := by decide +kernel
theorem dX4_init_14 : decode cX4_init 14 = .ok (.putfield 15, 3) := by decide +kernel
theorem dX4_init_17 : decode cX4_init 17 = .ok (.aload_n 0, 1) := by decide +kernel
theorem dX4_init_18 : decode cX4_init 18 = .ok (.iconst 4, 1) := by decide +kernel
theorem dX4_init_19 : decode cX4_init 19 = .ok (.putfield 19, 3) := by decide +kernel
theorem dX4_init_22 : decode cX4_init 22 = .ok (.aload_n 0, 1) := by decide +kernel
theorem dX4_init_23 : decode cX4_init 23 = .ok (.iconst 0, 1) := by decide +kernel
theorem dX4_init_24 : decode cX4_init 24 = .ok (.putfield 22, 3) := by decide +kernel
theorem dX4_init_27 : decode cX4_init 27 = .ok (.aload_n 0, 1) := by decide +kernel
theorem dX4_init_28 : decode cX4_init 28 = .ok (.iconst 0, 1) := by decide +kernel
theorem dX4_init_29 : decode cX4_init 29 = .ok (.putfield 25, 3) := by decide +kernel
theorem dX4_init_32 : decode cX4_init 32 = .ok (.return_, 1) := by decide +kernel
theorem dX4_valueAt_0 : decode cX4_valueAt 0 = .ok (.iload_n 1, 1) := by decide +kernel
theorem dX4_valueAt_1 : decode cX4_valueAt 1 = .ok (.ifCond .lt 29, 3) := by decide +kernel
theorem dX4_valueAt_4 : decode cX4_valueAt 4 = .ok (.iload_n 1, 1) := by decide +kernel
theorem dX4_valueAt_5 : decode cX4_valueAt 5 = .ok (.aload_n 0, 1) := by decide +kernel
theorem dX4_valueAt_6 : decode cX4_valueAt 6 = .ok (.getfield 15, 3) := by decide +kernel
theorem dX4_valueAt_9 : decode cX4_valueAt 9 = .ok (.if_icmp .ge 21, 3) := by decide +kernel
theorem dX4_valueAt_12 : decode cX4_valueAt 12 = .ok (.iload_n 1, 1) := by decide +kernel
theorem dX4_valueAt_13 : decode cX4_valueAt 13 = .ok (.aload_n 0, 1) := by decide +kernel
theorem dX4_valueAt_14 : decode cX4_valueAt 14 = .ok (.getfield 9, 3) := by decide +kernel
theorem dX4_valueAt_17 : decode cX4_valueAt 17 = .ok (.arraylength, 1) := by decide +kernel
theorem dX4_valueAt_18 : decode cX4_valueAt 18 = .ok (.if_icmp .ge 12, 3) := by decide +kernel
theorem dX4_valueAt_21 : decode cX4_valueAt 21 = .ok (.aload_n 0, 1) := by decide +kernel
theorem dX4_valueAt_22 : decode cX4_valueAt 22 = .ok (.getfield 9, 3) := by decide +kernel
theorem dX4_valueAt_25 : decode cX4_valueAt 25 = .ok (.iload_n 1, 1) := by decide +kernel
theorem dX4_valueAt_26 : decode cX4_valueAt 26 = .ok (.laload, 1) := by decide +kernel
theorem dX4_valueAt_27 : decode cX4_valueAt 27 = .ok (.goto 4, 3) := by decide +kernel
theorem dX4_valueAt_30 : decode cX4_valueAt 30 = .ok (.lconst 0, 1) := by decide +kernel
theorem dX4_valueAt_31 : decode cX4_valueAt 31 = .ok (.lreturn, 1) := by decide +kernel
set_option maxRecDepth 20000 in
theorem ggX4_shown_X4_valueAt : GoodIn wsX4_shown wsX4_valueAt := goodIn_r _ [6, 1, 7, 8, 9, 10, 11, 12] (by decide +kernel) (by decide +kernel)
set_option maxRecDepth 20000 in
theorem gX4_shown_X4_valueAt : GoodIn wsX4_shown (wsV RX4 28 RX4 yX4_valueAt wsX4_valueAt) := goodIn_app (goodIn_of _ (by decide +kernel)) ggX4_shown_X4_valueAt
theorem dX4_shown_0 : decode cX4_shown 0 = .ok (.aload_n 0, 1) := by decide +kernel
theorem dX4_shown_1 : decode cX4_shown 1 = .ok (.getfield 15, 3) := by decide +kernel
theorem dX4_shown_4 : decode cX4_shown 4 = .ok (.ifCond .gt 5, 3) := by decide +kernel
theorem dX4_shown_7 : decode cX4_shown 7 = .ok (.lconst 0, 1) := by decide +kernel
theorem dX4_shown_8 : decode cX4_shown 8 = .ok (.lreturn, 1) := by decide +kernel
theorem dX4_shown_9 : decode cX4_shown 9 = .ok (.lconst 0, 1) := by decide +kernel
theorem dX4_shown_10 : decode cX4_shown 10 = .ok (.lstore_n 1, 1) := by decide +kernel
theorem dX4_shown_11 : decode cX4_shown 11 = .ok (.iconst 0, 1) := by decide +kernel
theorem dX4_shown_12 : decode cX4_shown 12 = .ok (.istore_n 3, 1) := by decide +kernel
theorem dX4_shown_13 : decode cX4_shown 13 = .ok (.iload_n 3, 1) := by decide +kernel
theorem dX4_shown_14 : decode cX4_shown 14 = .ok (.aload_n 0, 1) := by decide +kernel
theorem dX4_shown_15 : decode cX4_shown 15 = .ok (.getfield 15, 3) := by decide +kernel
theorem dX4_shown_18 : decode cX4_shown 18 = .ok (.if_icmp .ge 17, 3) := by decide +kernel
theorem dX4_shown_21 : decode cX4_shown 21 = .ok (.lload_n 1, 1) := by decide +kernel
theorem dX4_shown_22 : decode cX4_shown 22 = .ok (.aload_n 0, 1) := by decide +kernel
theorem dX4_shown_23 : decode cX4_shown 23 = .ok (.iload_n 3, 1) := by decide +kernel
theorem dX4_shown_24 : decode cX4_shown 24 = .ok (.invokevirtual 28, 3) := by decide +kernel
theorem dX4_shown_27 : decode cX4_shown 27 = .ok (.ladd, 1) := by decide +kernel
theorem dX4_shown_28 : decode cX4_shown 28 = .ok (.lstore_n 1, 1) := by decide +kernel
theorem dX4_shown_29 : decode cX4_shown 29 = .ok (.iinc 3 1, 3) := by decide +kernel
theorem dX4_shown_32 : decode cX4_shown 32 = .ok (.goto (-19), 3) := by decide +kernel
theorem dX4_shown_35 : decode cX4_shown 35 = .ok (.lload_n 1, 1) := by decide +kernel
theorem dX4_shown_36 : decode cX4_shown 36 = .ok (.aload_n 0, 1) := by decide +kernel
theorem dX4_shown_37 : decode cX4_shown 37 = .ok (.getfield 15, 3) := by decide +kernel
theorem dX4_shown_40 : decode cX4_shown 40 = .ok (.i2l, 1) := by decide +kernel
theorem dX4_shown_41 : decode cX4_shown 41 = .ok (.ldiv, 1) := by decide +kernel
theorem dX4_shown_42 : decode cX4_shown 42 = .ok (.lreturn, 1) := by decide +kernel
set_option maxRecDepth 20000 in
theorem ggX4_least_X4_valueAt : GoodIn wsX4_least wsX4_valueAt := goodIn_r _ [10, 1, 11, 12, 13, 14, 15, 16] (by decide +kernel) (by decide +kernel)
set_option maxRecDepth 20000 in
theorem gX4_least_X4_valueAt : GoodIn wsX4_least (wsV RX4 28 RX4 yX4_valueAt wsX4_valueAt) := goodIn_app (goodIn_of _ (by decide +kernel)) ggX4_least_X4_valueAt
theorem dX4_least_0 : decode cX4_least 0 = .ok (.aload_n 0, 1) := by decide +kernel
theorem dX4_least_1 : decode cX4_least 1 = .ok (.iconst 0, 1) := by decide +kernel
theorem dX4_least_2 : decode cX4_least 2 = .ok (.invokevirtual 28, 3) := by decide +kernel
theorem dX4_least_5 : decode cX4_least 5 = .ok (.lstore_n 1, 1) := by decide +kernel
theorem dX4_least_6 : decode cX4_least 6 = .ok (.iconst 1, 1) := by decide +kernel
theorem dX4_least_7 : decode cX4_least 7 = .ok (.istore_n 3, 1) := by decide +kernel
theorem dX4_least_8 : decode cX4_least 8 = .ok (.iload_n 3, 1) := by decide +kernel
theorem dX4_least_9 : decode cX4_least 9 = .ok (.aload_n 0, 1) := by decide +kernel
theorem dX4_least_10 : decode cX4_least 10 = .ok (.getfield 15, 3) := by decide +kernel
theorem dX4_least_13 : decode cX4_least 13 = .ok (.if_icmp .ge 19, 3) := by decide +kernel
theorem dX4_least_16 : decode cX4_least 16 = .ok (.lload_n 1, 1) := by decide +kernel
theorem dX4_least_17 : decode cX4_least 17 = .ok (.aload_n 0, 1) := by decide +kernel
theorem dX4_least_18 : decode cX4_least 18 = .ok (.iload_n 3, 1) := by decide +kernel
theorem dX4_least_19 : decode cX4_least 19 = .ok (.invokevirtual 28, 3) := by decide +kernel
theorem dX4_least_22 : decode cX4_least 22 = .ok (.invokestatic 32, 3) := by decide +kernel
theorem dX4_least_25 : decode cX4_least 25 = .ok (.lstore_n 1, 1) := by decide +kernel
theorem dX4_least_26 : decode cX4_least 26 = .ok (.iinc 3 1, 3) := by decide +kernel
theorem dX4_least_29 : decode cX4_least 29 = .ok (.goto (-21), 3) := by decide +kernel
theorem dX4_least_32 : decode cX4_least 32 = .ok (.lload_n 1, 1) := by decide +kernel
theorem dX4_least_33 : decode cX4_least 33 = .ok (.lreturn, 1) := by decide +kernel
set_option maxRecDepth 20000 in
theorem ggX4_greatest_X4_valueAt : GoodIn wsX4_greatest wsX4_valueAt := goodIn_r _ [10, 1, 11, 12, 13, 14, 15, 16] (by decide +kernel) (by decide +kernel)
set_option maxRecDepth 20000 in
theorem gX4_greatest_X4_valueAt : GoodIn wsX4_greatest (wsV RX4 28 RX4 yX4_valueAt wsX4_valueAt) := goodIn_app (goodIn_of _ (by decide +kernel)) ggX4_greatest_X4_valueAt
theorem dX4_greatest_0 : decode cX4_greatest 0 = .ok (.aload_n 0, 1) := by decide +kernel
theorem dX4_greatest_1 : decode cX4_greatest 1 = .ok (.iconst 0, 1) := by decide +kernel
theorem dX4_greatest_2 : decode cX4_greatest 2 = .ok (.invokevirtual 28, 3) := by decide +kernel
theorem dX4_greatest_5 : decode cX4_greatest 5 = .ok (.lstore_n 1, 1) := by decide +kernel
theorem dX4_greatest_6 : decode cX4_greatest 6 = .ok (.iconst 1, 1) := by decide +kernel
theorem dX4_greatest_7 : decode cX4_greatest 7 = .ok (.istore_n 3, 1) := by decide +kernel
theorem dX4_greatest_8 : decode cX4_greatest 8 = .ok (.iload_n 3, 1) := by decide +kernel
theorem dX4_greatest_9 : decode cX4_greatest 9 = .ok (.aload_n 0, 1) := by decide +kernel
theorem dX4_greatest_10 : decode cX4_greatest 10 = .ok (.getfield 15, 3) := by decide +kernel
theorem dX4_greatest_13 : decode cX4_greatest 13 = .ok (.if_icmp .ge 19, 3) := by decide +kernel
theorem dX4_greatest_16 : decode cX4_greatest 16 = .ok (.lload_n 1, 1) := by decide +kernel
theorem dX4_greatest_17 : decode cX4_greatest 17 = .ok (.aload_n 0, 1) := by decide +kernel
theorem dX4_greatest_18 : decode cX4_greatest 18 = .ok (.iload_n 3, 1) := by decide +kernel
theorem dX4_greatest_19 : decode cX4_greatest 19 = .ok (.invokevirtual 28, 3) := by decide +kernel
theorem dX4_greatest_22 : decode cX4_greatest 22 = .ok (.invokestatic 38, 3) := by decide +kernel
theorem dX4_greatest_25 : decode cX4_greatest 25 = .ok (.lstore_n 1, 1) := by decide +kernel
theorem dX4_greatest_26 : decode cX4_greatest 26 = .ok (.iinc 3 1, 3) := by decide +kernel
theorem dX4_greatest_29 : decode cX4_greatest 29 = .ok (.goto (-21), 3) := by decide +kernel
theorem dX4_greatest_32 : decode cX4_greatest 32 = .ok (.lload_n 1, 1) := by decide +kernel
theorem dX4_greatest_33 : decode cX4_greatest 33 = .ok (.lreturn, 1) := by decide +kernel
set_option maxRecDepth 20000 in
theorem ggX4_takeIn_X4_shown : GoodIn wsX4_takeIn wsX4_shown := goodIn_r _ [15, 1, 16, 17, 18, 14, 19, 10, 24, 25, 26, 27, 28] (by decide +kernel) (by decide +kernel)
set_option maxRecDepth 20000 in
theorem gX4_takeIn_X4_shown : GoodIn wsX4_takeIn (wsV RX4 41 RX4 yX4_shown wsX4_shown) := goodIn_app (goodIn_of _ (by decide +kernel)) ggX4_takeIn_X4_shown
set_option maxRecDepth 20000 in
theorem ggX4_takeIn_X4_keepNewest : GoodIn wsX4_takeIn wsX4_keepNewest := goodIn_r _ [23, 1, 10, 16, 17, 18, 14, 19, 24, 25, 26, 27, 28] (by decide +kernel) (by decide +kernel)
set_option maxRecDepth 20000 in
theorem gX4_takeIn_X4_keepNewest : GoodIn wsX4_takeIn (wsV RX4 51 RX4 yX4_keepNewest wsX4_keepNewest) := goodIn_app (goodIn_of _ (by decide +kernel)) ggX4_takeIn_X4_keepNewest
theorem dX4_takeIn_0 : decode cX4_takeIn 0 = .ok (.aload_n 0, 1) := by decide +kernel
theorem dX4_takeIn_1 : decode cX4_takeIn 1 = .ok (.getfield 15, 3) := by decide +kernel
theorem dX4_takeIn_4 : decode cX4_takeIn 4 = .ok (.ifCond .le 36, 3) := by decide +kernel
theorem dX4_takeIn_7 : decode cX4_takeIn 7 = .ok (.aload_n 0, 1) := by decide +kernel
theorem dX4_takeIn_8 : decode cX4_takeIn 8 = .ok (.getfield 22, 3) := by decide +kernel
theorem dX4_takeIn_11 : decode cX4_takeIn 11 = .ok (.ifCond .le 29, 3) := by decide +kernel
theorem dX4_takeIn_14 : decode cX4_takeIn 14 = .ok (.lload_n 1, 1) := by decide +kernel
theorem dX4_takeIn_15 : decode cX4_takeIn 15 = .ok (.aload_n 0, 1) := by decide +kernel
theorem dX4_takeIn_16 : decode cX4_takeIn 16 = .ok (.invokevirtual 41, 3) := by decide +kernel
theorem dX4_takeIn_19 : decode cX4_takeIn 19 = .ok (.lsub, 1) := by decide +kernel
theorem dX4_takeIn_20 : decode cX4_takeIn 20 = .ok (.invokestatic 45, 3) := by decide +kernel
theorem dX4_takeIn_23 : decode cX4_takeIn 23 = .ok (.aload_n 0, 1) := by decide +kernel
theorem dX4_takeIn_24 : decode cX4_takeIn 24 = .ok (.getfield 22, 3) := by decide +kernel
theorem dX4_takeIn_27 : decode cX4_takeIn 27 = .ok (.i2l, 1) := by decide +kernel
theorem dX4_takeIn_28 : decode cX4_takeIn 28 = .ok (.ldc2_w 49, 3) := by decide +kernel
theorem dX4_takeIn_31 : decode cX4_takeIn 31 = .ok (.lmul, 1) := by decide +kernel
theorem dX4_takeIn_32 : decode cX4_takeIn 32 = .ok (.lcmp, 1) := by decide +kernel
theorem dX4_takeIn_33 : decode cX4_takeIn 33 = .ok (.ifCond .le 7, 3) := by decide +kernel
theorem dX4_takeIn_36 : decode cX4_takeIn 36 = .ok (.iconst 1, 1) := by decide +kernel
theorem dX4_takeIn_37 : decode cX4_takeIn 37 = .ok (.goto 4, 3) := by decide +kernel
theorem dX4_takeIn_40 : decode cX4_takeIn 40 = .ok (.iconst 0, 1) := by decide +kernel
theorem dX4_takeIn_41 : decode cX4_takeIn 41 = .ok (.istore_n 3, 1) := by decide +kernel
theorem dX4_takeIn_42 : decode cX4_takeIn 42 = .ok (.iload_n 3, 1) := by decide +kernel
theorem dX4_takeIn_43 : decode cX4_takeIn 43 = .ok (.ifCond .eq 18, 3) := by decide +kernel
theorem dX4_takeIn_46 : decode cX4_takeIn 46 = .ok (.aload_n 0, 1) := by decide +kernel
theorem dX4_takeIn_47 : decode cX4_takeIn 47 = .ok (.iconst 0, 1) := by decide +kernel
theorem dX4_takeIn_48 : decode cX4_takeIn 48 = .ok (.putfield 15, 3) := by decide +kernel
theorem dX4_takeIn_51 : decode cX4_takeIn 51 = .ok (.aload_n 0, 1) := by decide +kernel
theorem dX4_takeIn_52 : decode cX4_takeIn 52 = .ok (.dup, 1) := by decide +kernel
theorem dX4_takeIn_53 : decode cX4_takeIn 53 = .ok (.getfield 25, 3) := by decide +kernel
theorem dX4_takeIn_56 : decode cX4_takeIn 56 = .ok (.iconst 1, 1) := by decide +kernel
theorem dX4_takeIn_57 : decode cX4_takeIn 57 = .ok (.iadd, 1) := by decide +kernel
theorem dX4_takeIn_58 : decode cX4_takeIn 58 = .ok (.putfield 25, 3) := by decide +kernel
theorem dX4_takeIn_61 : decode cX4_takeIn 61 = .ok (.aload_n 0, 1) := by decide +kernel
theorem dX4_takeIn_62 : decode cX4_takeIn 62 = .ok (.aload_n 0, 1) := by decide +kernel
theorem dX4_takeIn_63 : decode cX4_takeIn 63 = .ok (.getfield 19, 3) := by decide +kernel
theorem dX4_takeIn_66 : decode cX4_takeIn 66 = .ok (.iconst 1, 1) := by decide +kernel
theorem dX4_takeIn_67 : decode cX4_takeIn 67 = .ok (.isub, 1) := by decide +kernel
theorem dX4_takeIn_68 : decode cX4_takeIn 68 = .ok (.invokevirtual 51, 3) := by decide +kernel
theorem dX4_takeIn_71 : decode cX4_takeIn 71 = .ok (.aload_n 0, 1) := by decide +kernel
theorem dX4_takeIn_72 : decode cX4_takeIn 72 = .ok (.getfield 15, 3) := by decide +kernel
theorem dX4_takeIn_75 : decode cX4_takeIn 75 = .ok (.ifCond .lt 35, 3) := by decide +kernel
theorem dX4_takeIn_78 : decode cX4_takeIn 78 = .ok (.aload_n 0, 1) := by decide +kernel
theorem dX4_takeIn_79 : decode cX4_takeIn 79 = .ok (.getfield 15, 3) := by decide +kernel
theorem dX4_takeIn_82 : decode cX4_takeIn 82 = .ok (.aload_n 0, 1) := by decide +kernel
theorem dX4_takeIn_83 : decode cX4_takeIn 83 = .ok (.getfield 9, 3) := by decide +kernel
theorem dX4_takeIn_86 : decode cX4_takeIn 86 = .ok (.arraylength, 1) := by decide +kernel
theorem dX4_takeIn_87 : decode cX4_takeIn 87 = .ok (.if_icmp .ge 23, 3) := by decide +kernel
theorem dX4_takeIn_90 : decode cX4_takeIn 90 = .ok (.aload_n 0, 1) := by decide +kernel
theorem dX4_takeIn_91 : decode cX4_takeIn 91 = .ok (.getfield 9, 3) := by decide +kernel
theorem dX4_takeIn_94 : decode cX4_takeIn 94 = .ok (.aload_n 0, 1) := by decide +kernel
theorem dX4_takeIn_95 : decode cX4_takeIn 95 = .ok (.getfield 15, 3) := by decide +kernel
theorem dX4_takeIn_98 : decode cX4_takeIn 98 = .ok (.lload_n 1, 1) := by decide +kernel
theorem dX4_takeIn_99 : decode cX4_takeIn 99 = .ok (.lastore, 1) := by decide +kernel
theorem dX4_takeIn_100 : decode cX4_takeIn 100 = .ok (.aload_n 0, 1) := by decide +kernel
theorem dX4_takeIn_101 : decode cX4_takeIn 101 = .ok (.dup, 1) := by decide +kernel
theorem dX4_takeIn_102 : decode cX4_takeIn 102 = .ok (.getfield 15, 3) := by decide +kernel
theorem dX4_takeIn_105 : decode cX4_takeIn 105 = .ok (.iconst 1, 1) := by decide +kernel
theorem dX4_takeIn_106 : decode cX4_takeIn 106 = .ok (.iadd, 1) := by decide +kernel
theorem dX4_takeIn_107 : decode cX4_takeIn 107 = .ok (.putfield 15, 3) := by decide +kernel
theorem dX4_takeIn_110 : decode cX4_takeIn 110 = .ok (.iload_n 3, 1) := by decide +kernel
theorem dX4_takeIn_111 : decode cX4_takeIn 111 = .ok (.ireturn, 1) := by decide +kernel
set_option maxRecDepth 20000 in
theorem ggX4_resize_X4_keepNewest : GoodIn wsX4_resize wsX4_keepNewest := goodIn_r _ [6, 7, 8, 9, 10, 11, 5, 12, 13, 14, 15, 16, 17] (by decide +kernel) (by decide +kernel)
set_option maxRecDepth 20000 in
theorem gX4_resize_X4_keepNewest : GoodIn wsX4_resize (wsV RX4 51 RX4 yX4_keepNewest wsX4_keepNewest) := goodIn_app (goodIn_of _ (by decide +kernel)) ggX4_resize_X4_keepNewest
theorem dX4_resize_0 : decode cX4_resize 0 = .ok (.aload_n 0, 1) := by decide +kernel
theorem dX4_resize_1 : decode cX4_resize 1 = .ok (.iload_n 1, 1) := by decide +kernel
theorem dX4_resize_2 : decode cX4_resize 2 = .ok (.putfield 19, 3) := by decide +kernel
theorem dX4_resize_5 : decode cX4_resize 5 = .ok (.aload_n 0, 1) := by decide +kernel
theorem dX4_resize_6 : decode cX4_resize 6 = .ok (.iload_n 1, 1) := by decide +kernel
theorem dX4_resize_7 : decode cX4_resize 7 = .ok (.invokevirtual 51, 3) := by decide +kernel
theorem dX4_resize_10 : decode cX4_resize 10 = .ok (.return_, 1) := by decide +kernel
set_option maxRecDepth 20000 in
theorem ggX4_keepNewest_X4_valueAt : GoodIn wsX4_keepNewest wsX4_valueAt := goodIn_r _ [7, 1, 2, 8, 9, 10, 11, 12] (by decide +kernel) (by decide +kernel)
set_option maxRecDepth 20000 in
theorem gX4_keepNewest_X4_valueAt : GoodIn wsX4_keepNewest (wsV RX4 28 RX4 yX4_valueAt wsX4_valueAt) := goodIn_app (goodIn_of _ (by decide +kernel)) ggX4_keepNewest_X4_valueAt
theorem dX4_keepNewest_0 : decode cX4_keepNewest 0 = .ok (.aload_n 0, 1) := by decide +kernel
theorem dX4_keepNewest_1 : decode cX4_keepNewest 1 = .ok (.getfield 15, 3) := by decide +kernel
theorem dX4_keepNewest_4 : decode cX4_keepNewest 4 = .ok (.iload_n 1, 1) := by decide +kernel
theorem dX4_keepNewest_5 : decode cX4_keepNewest 5 = .ok (.isub, 1) := by decide +kernel
theorem dX4_keepNewest_6 : decode cX4_keepNewest 6 = .ok (.istore_n 2, 1) := by decide +kernel
theorem dX4_keepNewest_7 : decode cX4_keepNewest 7 = .ok (.iload_n 2, 1) := by decide +kernel
theorem dX4_keepNewest_8 : decode cX4_keepNewest 8 = .ok (.ifCond .gt 4, 3) := by decide +kernel
theorem dX4_keepNewest_11 : decode cX4_keepNewest 11 = .ok (.return_, 1) := by decide +kernel
theorem dX4_keepNewest_12 : decode cX4_keepNewest 12 = .ok (.iconst 0, 1) := by decide +kernel
theorem dX4_keepNewest_13 : decode cX4_keepNewest 13 = .ok (.istore_n 3, 1) := by decide +kernel
theorem dX4_keepNewest_14 : decode cX4_keepNewest 14 = .ok (.iload_n 3, 1) := by decide +kernel
theorem dX4_keepNewest_15 : decode cX4_keepNewest 15 = .ok (.iload_n 1, 1) := by decide +kernel
theorem dX4_keepNewest_16 : decode cX4_keepNewest 16 = .ok (.if_icmp .ge 31, 3) := by decide +kernel
theorem dX4_keepNewest_19 : decode cX4_keepNewest 19 = .ok (.iload_n 3, 1) := by decide +kernel
theorem dX4_keepNewest_20 : decode cX4_keepNewest 20 = .ok (.aload_n 0, 1) := by decide +kernel
theorem dX4_keepNewest_21 : decode cX4_keepNewest 21 = .ok (.getfield 9, 3) := by decide +kernel
theorem dX4_keepNewest_24 : decode cX4_keepNewest 24 = .ok (.arraylength, 1) := by decide +kernel
theorem dX4_keepNewest_25 : decode cX4_keepNewest 25 = .ok (.if_icmp .ge 22, 3) := by decide +kernel
theorem dX4_keepNewest_28 : decode cX4_keepNewest 28 = .ok (.aload_n 0, 1) := by decide +kernel
theorem dX4_keepNewest_29 : decode cX4_keepNewest 29 = .ok (.getfield 9, 3) := by decide +kernel
theorem dX4_keepNewest_32 : decode cX4_keepNewest 32 = .ok (.iload_n 3, 1) := by decide +kernel
theorem dX4_keepNewest_33 : decode cX4_keepNewest 33 = .ok (.aload_n 0, 1) := by decide +kernel
theorem dX4_keepNewest_34 : decode cX4_keepNewest 34 = .ok (.iload_n 3, 1) := by decide +kernel
theorem dX4_keepNewest_35 : decode cX4_keepNewest 35 = .ok (.iload_n 2, 1) := by decide +kernel
theorem dX4_keepNewest_36 : decode cX4_keepNewest 36 = .ok (.iadd, 1) := by decide +kernel
theorem dX4_keepNewest_37 : decode cX4_keepNewest 37 = .ok (.invokevirtual 28, 3) := by decide +kernel
theorem dX4_keepNewest_40 : decode cX4_keepNewest 40 = .ok (.lastore, 1) := by decide +kernel
theorem dX4_keepNewest_41 : decode cX4_keepNewest 41 = .ok (.iinc 3 1, 3) := by decide +kernel
theorem dX4_keepNewest_44 : decode cX4_keepNewest 44 = .ok (.goto (-30), 3) := by decide +kernel
theorem dX4_keepNewest_47 : decode cX4_keepNewest 47 = .ok (.aload_n 0, 1) := by decide +kernel
theorem dX4_keepNewest_48 : decode cX4_keepNewest 48 = .ok (.iload_n 1, 1) := by decide +kernel
theorem dX4_keepNewest_49 : decode cX4_keepNewest 49 = .ok (.putfield 15, 3) := by decide +kernel
theorem dX4_keepNewest_52 : decode cX4_keepNewest 52 = .ok (.return_, 1) := by decide +kernel
theorem dX5_init_0 : decode cX5_init 0 = .ok (.aload_n 0, 1) := by decide +kernel
theorem dX5_init_1 : decode cX5_init 1 = .ok (.invokespecial 1, 3) := by decide +kernel
theorem dX5_init_4 : decode cX5_init 4 = .ok (.aload_n 0, 1) := by decide +kernel
theorem dX5_init_5 : decode cX5_init 5 = .ok (.bipush 40, 2) := by decide +kernel
theorem dX5_init_7 : decode cX5_init 7 = .ok (.newarray .int, 2) := by decide +kernel
theorem dX5_init_9 : decode cX5_init 9 = .ok (.putfield 7, 3) := by decide +kernel
theorem dX5_init_12 : decode cX5_init 12 = .ok (.aload_n 0, 1) := by decide +kernel
theorem dX5_init_13 : decode cX5_init 13 = .ok (.iconst 0, 1) := by decide +kernel
theorem dX5_init_14 : decode cX5_init 14 = .ok (.putfield 13, 3) := by decide +kernel
theorem dX5_init_17 : decode cX5_init 17 = .ok (.return_, 1) := by decide +kernel
theorem dX5_write_0 : decode cX5_write 0 = .ok (.aload_n 0, 1) := by decide +kernel
theorem dX5_write_1 : decode cX5_write 1 = .ok (.getfield 13, 3) := by decide +kernel
theorem dX5_write_4 : decode cX5_write 4 = .ok (.ifCond .lt 15, 3) := by decide +kernel
theorem dX5_write_7 : decode cX5_write 7 = .ok (.aload_n 0, 1) := by decide +kernel
theorem dX5_write_8 : decode cX5_write 8 = .ok (.getfield 13, 3) := by decide +kernel
theorem dX5_write_11 : decode cX5_write 11 = .ok (.aload_n 0, 1) := by decide +kernel
theorem dX5_write_12 : decode cX5_write 12 = .ok (.getfield 7, 3) := by decide +kernel
theorem dX5_write_15 : decode cX5_write 15 = .ok (.arraylength, 1) := by decide +kernel
theorem dX5_write_16 : decode cX5_write 16 = .ok (.if_icmp .lt 5, 3) := by decide +kernel
theorem dX5_write_19 : decode cX5_write 19 = .ok (.iconst 0, 1) := by decide +kernel
theorem dX5_write_20 : decode cX5_write 20 = .ok (.ireturn, 1) := by decide +kernel
theorem dX5_write_21 : decode cX5_write 21 = .ok (.aload_n 0, 1) := by decide +kernel
theorem dX5_write_22 : decode cX5_write 22 = .ok (.getfield 7, 3) := by decide +kernel
theorem dX5_write_25 : decode cX5_write 25 = .ok (.aload_n 0, 1) := by decide +kernel
theorem dX5_write_26 : decode cX5_write 26 = .ok (.getfield 13, 3) := by decide +kernel
theorem dX5_write_29 : decode cX5_write 29 = .ok (.iload_n 1, 1) := by decide +kernel
theorem dX5_write_30 : decode cX5_write 30 = .ok (.iastore, 1) := by decide +kernel
theorem dX5_write_31 : decode cX5_write 31 = .ok (.aload_n 0, 1) := by decide +kernel
theorem dX5_write_32 : decode cX5_write 32 = .ok (.dup, 1) := by decide +kernel
theorem dX5_write_33 : decode cX5_write 33 = .ok (.getfield 13, 3) := by decide +kernel
theorem dX5_write_36 : decode cX5_write 36 = .ok (.iconst 1, 1) := by decide +kernel
theorem dX5_write_37 : decode cX5_write 37 = .ok (.iadd, 1) := by decide +kernel
theorem dX5_write_38 : decode cX5_write 38 = .ok (.putfield 13, 3) := by decide +kernel
theorem dX5_write_41 : decode cX5_write 41 = .ok (.iconst 1, 1) := by decide +kernel
theorem dX5_write_42 : decode cX5_write 42 = .ok (.ireturn, 1) := by decide +kernel
theorem dX5_codeAt_0 : decode cX5_codeAt 0 = .ok (.iload_n 1, 1) := by decide +kernel
theorem dX5_codeAt_1 : decode cX5_codeAt 1 = .ok (.ifCond .lt 29, 3) := by decide +kernel
theorem dX5_codeAt_4 : decode cX5_codeAt 4 = .ok (.iload_n 1, 1) := by decide +kernel
theorem dX5_codeAt_5 : decode cX5_codeAt 5 = .ok (.aload_n 0, 1) := by decide +kernel
theorem dX5_codeAt_6 : decode cX5_codeAt 6 = .ok (.getfield 13, 3) := by decide +kernel
theorem dX5_codeAt_9 : decode cX5_codeAt 9 = .ok (.if_icmp .ge 21, 3) := by decide +kernel
theorem dX5_codeAt_12 : decode cX5_codeAt 12 = .ok (.iload_n 1, 1) := by decide +kernel
theorem dX5_codeAt_13 : decode cX5_codeAt 13 = .ok (.aload_n 0, 1) := by decide +kernel
theorem dX5_codeAt_14 : decode cX5_codeAt 14 = .ok (.getfield 7, 3) := by decide +kernel
theorem dX5_codeAt_17 : decode cX5_codeAt 17 = .ok (.arraylength, 1) := by decide +kernel
theorem dX5_codeAt_18 : decode cX5_codeAt 18 = .ok (.if_icmp .ge 12, 3) := by decide +kernel
theorem dX5_codeAt_21 : decode cX5_codeAt 21 = .ok (.aload_n 0, 1) := by decide +kernel
theorem dX5_codeAt_22 : decode cX5_codeAt 22 = .ok (.getfield 7, 3) := by decide +kernel
theorem dX5_codeAt_25 : decode cX5_codeAt 25 = .ok (.iload_n 1, 1) := by decide +kernel
theorem dX5_codeAt_26 : decode cX5_codeAt 26 = .ok (.iaload, 1) := by decide +kernel
theorem dX5_codeAt_27 : decode cX5_codeAt 27 = .ok (.goto 4, 3) := by decide +kernel
theorem dX5_codeAt_30 : decode cX5_codeAt 30 = .ok (.iconst 0, 1) := by decide +kernel
theorem dX5_codeAt_31 : decode cX5_codeAt 31 = .ok (.ireturn, 1) := by decide +kernel
theorem dX6_init_0 : decode cX6_init 0 = .ok (.aload_n 0, 1) := by decide +kernel
theorem dX6_init_1 : decode cX6_init 1 = .ok (.invokespecial 3, 3) := by decide +kernel
theorem dX6_init_4 : decode cX6_init 4 = .ok (.aload_n 0, 1) := by decide +kernel
theorem dX6_init_5 : decode cX6_init 5 = .ok (.iconst 0, 1) := by decide +kernel
theorem dX6_init_6 : decode cX6_init 6 = .ok (.putfield 11, 3) := by decide +kernel
theorem dX6_init_9 : decode cX6_init 9 = .ok (.aload_n 0, 1) := by decide +kernel
theorem dX6_init_10 : decode cX6_init 10 = .ok (.iconst 0, 1) := by decide +kernel
theorem dX6_init_11 : decode cX6_init 11 = .ok (.putfield 15, 3) := by decide +kernel
theorem dX6_init_14 : decode cX6_init 14 = .ok (.aload_n 0, 1) := by decide +kernel
theorem dX6_init_15 : decode cX6_init 15 = .ok (.lconst 0, 1) := by decide +kernel
theorem dX6_init_16 : decode cX6_init 16 = .ok (.putfield 19, 3) := by decide +kernel
theorem dX6_init_19 : decode cX6_init 19 = .ok (.aload_n 0, 1) := by decide +kernel
theorem dX6_init_20 : decode cX6_init 20 = .ok (.iconst 0, 1) := by decide +kernel
theorem dX6_init_21 : decode cX6_init 21 = .ok (.putfield 23, 3) := by decide +kernel
theorem dX6_init_24 : decode cX6_init 24 = .ok (.return_, 1) := by decide +kernel
theorem dX6_begin_0 : decode cX6_begin 0 = .ok (.aload_n 0, 1) := by decide +kernel
theorem dX6_begin_1 : decode cX6_begin 1 = .ok (.iconst 0, 1) := by decide +kernel
theorem dX6_begin_2 : decode cX6_begin 2 = .ok (.putfield 11, 3) := by decide +kernel
theorem dX6_begin_5 : decode cX6_begin 5 = .ok (.aload_n 0, 1) := by decide +kernel
theorem dX6_begin_6 : decode cX6_begin 6 = .ok (.iconst 0, 1) := by decide +kernel
theorem dX6_begin_7 : decode cX6_begin 7 = .ok (.putfield 23, 3) := by decide +kernel
theorem dX6_begin_10 : decode cX6_begin 10 = .ok (.aload_n 0, 1) := by decide +kernel
theorem dX6_begin_11 : decode cX6_begin 11 = .ok (.iconst 0, 1) := by decide +kernel
theorem dX6_begin_12 : decode cX6_begin 12 = .ok (.putfield 15, 3) := by decide +kernel
theorem dX6_begin_15 : decode cX6_begin 15 = .ok (.aload_n 0, 1) := by decide +kernel
theorem dX6_begin_16 : decode cX6_begin 16 = .ok (.lconst 0, 1) := by decide +kernel
theorem dX6_begin_17 : decode cX6_begin 17 = .ok (.putfield 19, 3) := by decide +kernel
theorem dX6_begin_20 : decode cX6_begin 20 = .ok (.return_, 1) := by decide +kernel
theorem dX6_value_0 : decode cX6_value 0 = .ok (.aload_n 0, 1) := by decide +kernel
theorem dX6_value_1 : decode cX6_value 1 = .ok (.getfield 15, 3) := by decide +kernel
theorem dX6_value_4 : decode cX6_value 4 = .ok (.ifCond .eq 11, 3) := by decide +kernel
theorem dX6_value_7 : decode cX6_value 7 = .ok (.aload_n 0, 1) := by decide +kernel
theorem dX6_value_8 : decode cX6_value 8 = .ok (.getfield 19, 3) := by decide +kernel
theorem dX6_value_11 : decode cX6_value 11 = .ok (.lneg, 1) := by decide +kernel
theorem dX6_value_12 : decode cX6_value 12 = .ok (.goto 7, 3) := by decide +kernel
theorem dX6_value_15 : decode cX6_value 15 = .ok (.aload_n 0, 1) := by decide +kernel
theorem dX6_value_16 : decode cX6_value 16 = .ok (.getfield 19, 3) := by decide +kernel
theorem dX6_value_19 : decode cX6_value 19 = .ok (.l2i, 1) := by decide +kernel
theorem dX6_value_20 : decode cX6_value 20 = .ok (.ireturn, 1) := by decide +kernel
set_option maxRecDepth 20000 in
theorem ggX6_mayEnd_X6_value : GoodIn wsX6_mayEnd wsX6_value := goodIn_r _ [7, 8, 9, 14, 15, 16, 17] (by decide +kernel) (by decide +kernel)
set_option maxRecDepth 20000 in
theorem gX6_mayEnd_X6_value : GoodIn wsX6_mayEnd (wsV RX6 26 RX6 yX6_value wsX6_value) := goodIn_app (goodIn_of _ (by decide +kernel)) ggX6_mayEnd_X6_value
set_option maxRecDepth 20000 in
theorem ggX6_mayEnd_X6_least : GoodIn wsX6_mayEnd wsX6_least := goodIn_r _ [12, 13] (by decide +kernel) (by decide +kernel)
set_option maxRecDepth 20000 in
theorem gX6_mayEnd_X6_least : GoodIn wsX6_mayEnd (va_wsS RX6 30 yX6_least wsX6_least) := goodIn_app (goodIn_of _ (by decide +kernel)) ggX6_mayEnd_X6_least
theorem dX6_mayEnd_0 : decode cX6_mayEnd 0 = .ok (.aload_n 0, 1) := by decide +kernel
theorem dX6_mayEnd_1 : decode cX6_mayEnd 1 = .ok (.getfield 11, 3) := by decide +kernel
theorem dX6_mayEnd_4 : decode cX6_mayEnd 4 = .ok (.iconst 3, 1) := by decide +kernel
theorem dX6_mayEnd_5 : decode cX6_mayEnd 5 = .ok (.if_icmp .eq 11, 3) := by decide +kernel
theorem dX6_mayEnd_8 : decode cX6_mayEnd 8 = .ok (.aload_n 0, 1) := by decide +kernel
theorem dX6_mayEnd_9 : decode cX6_mayEnd 9 = .ok (.getfield 11, 3) := by decide +kernel
theorem dX6_mayEnd_12 : decode cX6_mayEnd 12 = .ok (.iconst 4, 1) := by decide +kernel
theorem dX6_mayEnd_13 : decode cX6_mayEnd 13 = .ok (.if_icmp .ne 21, 3) := by decide +kernel
theorem dX6_mayEnd_16 : decode cX6_mayEnd 16 = .ok (.aload_n 0, 1) := by decide +kernel
theorem dX6_mayEnd_17 : decode cX6_mayEnd 17 = .ok (.invokevirtual 26, 3) := by decide +kernel
theorem dX6_mayEnd_20 : decode cX6_mayEnd 20 = .ok (.aload_n 0, 1) := by decide +kernel
theorem dX6_mayEnd_21 : decode cX6_mayEnd 21 = .ok (.getfield 23, 3) := by decide +kernel
theorem dX6_mayEnd_24 : decode cX6_mayEnd 24 = .ok (.invokestatic 30, 3) := by decide +kernel
theorem dX6_mayEnd_27 : decode cX6_mayEnd 27 = .ok (.if_icmp .lt 7, 3) := by decide +kernel
theorem dX6_mayEnd_30 : decode cX6_mayEnd 30 = .ok (.iconst 1, 1) := by decide +kernel
theorem dX6_mayEnd_31 : decode cX6_mayEnd 31 = .ok (.goto 4, 3) := by decide +kernel
theorem dX6_mayEnd_34 : decode cX6_mayEnd 34 = .ok (.iconst 0, 1) := by decide +kernel
theorem dX6_mayEnd_35 : decode cX6_mayEnd 35 = .ok (.ireturn, 1) := by decide +kernel
set_option maxRecDepth 20000 in
theorem ggX6_takes_X6_takesCommand : GoodIn wsX6_takes wsX6_takesCommand := goodIn_r _ [6, 7, 8, 9, 1, 10, 11, 5, 12, 13, 14, 40, 41, 42, 43] (by decide +kernel) (by decide +kernel)
set_option maxRecDepth 20000 in
theorem gX6_takes_X6_takesCommand : GoodIn wsX6_takes (wsV RX6 34 RX6 yX6_takesCommand wsX6_takesCommand) := goodIn_app (goodIn_of _ (by decide +kernel)) ggX6_takes_X6_takesCommand
set_option maxRecDepth 20000 in
theorem ggX6_takes_X6_takesMinus : GoodIn wsX6_takes wsX6_takesMinus := goodIn_r _ [18, 7, 8, 1, 19, 20, 5, 21, 22, 40, 41, 42, 43] (by decide +kernel) (by decide +kernel)
set_option maxRecDepth 20000 in
theorem gX6_takes_X6_takesMinus : GoodIn wsX6_takes (wsV RX6 38 RX6 yX6_takesMinus wsX6_takesMinus) := goodIn_app (goodIn_of _ (by decide +kernel)) ggX6_takes_X6_takesMinus
set_option maxRecDepth 20000 in
theorem ggX6_takes_X6_takesFigure : GoodIn wsX6_takes wsX6_takesFigure := goodIn_r _ [26, 9, 27, 8, 7, 1, 19, 20, 5, 21, 22, 10, 11, 12, 13, 14, 40, 41, 42, 43] (by decide +kernel) (by decide +kernel)
set_option maxRecDepth 20000 in
theorem gX6_takes_X6_takesFigure : GoodIn wsX6_takes (wsV RX6 42 RX6 yX6_takesFigure wsX6_takesFigure) := goodIn_app (goodIn_of _ (by decide +kernel)) ggX6_takes_X6_takesFigure
set_option maxRecDepth 20000 in
theorem ggX6_takes_X6_takesEnd : GoodIn wsX6_takes wsX6_takesEnd := goodIn_r _ [31, 1, 32, 33, 34, 5, 35, 7, 36, 37, 38, 39, 8, 9, 19, 20, 21, 22, 40, 41, 42, 43] (by decide +kernel) (by decide +kernel)
set_option maxRecDepth 20000 in
theorem gX6_takes_X6_takesEnd : GoodIn wsX6_takes (wsV RX6 45 RX6 yX6_takesEnd wsX6_takesEnd) := goodIn_app (goodIn_of _ (by decide +kernel)) ggX6_takes_X6_takesEnd
theorem dX6_takes_0 : decode cX6_takes 0 = .ok (.aload_n 0, 1) := by decide +kernel
theorem dX6_takes_1 : decode cX6_takes 1 = .ok (.getfield 11, 3) := by decide +kernel
theorem dX6_takes_4 : decode cX6_takes 4 = .ok (.tableswitch 96 0 3 #[32, 38, 57, 77], 32) := by decide +kernel
theorem dX6_takes_36 : decode cX6_takes 36 = .ok (.aload_n 0, 1) := by decide +kernel
theorem dX6_takes_37 : decode cX6_takes 37 = .ok (.iload_n 1, 1) := by decide +kernel
theorem dX6_takes_38 : decode cX6_takes 38 = .ok (.invokevirtual 34, 3) := by decide +kernel
theorem dX6_takes_41 : decode cX6_takes 41 = .ok (.ireturn, 1) := by decide +kernel
theorem dX6_takes_42 : decode cX6_takes 42 = .ok (.iload_n 1, 1) := by decide +kernel
theorem dX6_takes_43 : decode cX6_takes 43 = .ok (.bipush 45, 2) := by decide +kernel
theorem dX6_takes_45 : decode cX6_takes 45 = .ok (.if_icmp .ne 10, 3) := by decide +kernel
theorem dX6_takes_48 : decode cX6_takes 48 = .ok (.aload_n 0, 1) := by decide +kernel
theorem dX6_takes_49 : decode cX6_takes 49 = .ok (.invokevirtual 38, 3) := by decide +kernel
theorem dX6_takes_52 : decode cX6_takes 52 = .ok (.goto 8, 3) := by decide +kernel
theorem dX6_takes_55 : decode cX6_takes 55 = .ok (.aload_n 0, 1) := by decide +kernel
theorem dX6_takes_56 : decode cX6_takes 56 = .ok (.iload_n 1, 1) := by decide +kernel
theorem dX6_takes_57 : decode cX6_takes 57 = .ok (.invokevirtual 42, 3) := by decide +kernel
theorem dX6_takes_60 : decode cX6_takes 60 = .ok (.ireturn, 1) := by decide +kernel
theorem dX6_takes_61 : decode cX6_takes 61 = .ok (.iload_n 1, 1) := by decide +kernel
theorem dX6_takes_62 : decode cX6_takes 62 = .ok (.bipush 48, 2) := by decide +kernel
theorem dX6_takes_64 : decode cX6_takes 64 = .ok (.if_icmp .eq 15, 3) := by decide +kernel
theorem dX6_takes_67 : decode cX6_takes 67 = .ok (.aload_n 0, 1) := by decide +kernel
theorem dX6_takes_68 : decode cX6_takes 68 = .ok (.iload_n 1, 1) := by decide +kernel
theorem dX6_takes_69 : decode cX6_takes 69 = .ok (.invokevirtual 42, 3) := by decide +kernel
theorem dX6_takes_72 : decode cX6_takes 72 = .ok (.ifCond .eq 7, 3) := by decide +kernel
theorem dX6_takes_75 : decode cX6_takes 75 = .ok (.iconst 1, 1) := by decide +kernel
theorem dX6_takes_76 : decode cX6_takes 76 = .ok (.goto 4, 3) := by decide +kernel
theorem dX6_takes_79 : decode cX6_takes 79 = .ok (.iconst 0, 1) := by decide +kernel
theorem dX6_takes_80 : decode cX6_takes 80 = .ok (.ireturn, 1) := by decide +kernel
theorem dX6_takes_81 : decode cX6_takes 81 = .ok (.iload_n 1, 1) := by decide +kernel
theorem dX6_takes_82 : decode cX6_takes 82 = .ok (.bipush 59, 2) := by decide +kernel
theorem dX6_takes_84 : decode cX6_takes 84 = .ok (.if_icmp .ne 10, 3) := by decide +kernel
theorem dX6_takes_87 : decode cX6_takes 87 = .ok (.aload_n 0, 1) := by decide +kernel
theorem dX6_takes_88 : decode cX6_takes 88 = .ok (.invokevirtual 45, 3) := by decide +kernel
theorem dX6_takes_91 : decode cX6_takes 91 = .ok (.goto 8, 3) := by decide +kernel
theorem dX6_takes_94 : decode cX6_takes 94 = .ok (.aload_n 0, 1) := by decide +kernel
theorem dX6_takes_95 : decode cX6_takes 95 = .ok (.iload_n 1, 1) := by decide +kernel
theorem dX6_takes_96 : decode cX6_takes 96 = .ok (.invokevirtual 42, 3) := by decide +kernel
theorem dX6_takes_99 : decode cX6_takes 99 = .ok (.ireturn, 1) := by decide +kernel
theorem dX6_takes_100 : decode cX6_takes 100 = .ok (.iload_n 1, 1) := by decide +kernel
theorem dX6_takes_101 : decode cX6_takes 101 = .ok (.bipush 59, 2) := by decide +kernel
theorem dX6_takes_103 : decode cX6_takes 103 = .ok (.if_icmp .ne 14, 3) := by decide +kernel
theorem dX6_takes_106 : decode cX6_takes 106 = .ok (.aload_n 0, 1) := by decide +kernel
theorem dX6_takes_107 : decode cX6_takes 107 = .ok (.invokevirtual 45, 3) := by decide +kernel
theorem dX6_takes_110 : decode cX6_takes 110 = .ok (.ifCond .eq 7, 3) := by decide +kernel
theorem dX6_takes_113 : decode cX6_takes 113 = .ok (.iconst 1, 1) := by decide +kernel
theorem dX6_takes_114 : decode cX6_takes 114 = .ok (.goto 4, 3) := by decide +kernel
theorem dX6_takes_117 : decode cX6_takes 117 = .ok (.iconst 0, 1) := by decide +kernel
theorem dX6_takes_118 : decode cX6_takes 118 = .ok (.ireturn, 1) := by decide +kernel
set_option maxRecDepth 20000 in
theorem ggX6_takesCommand_X6_most : GoodIn wsX6_takesCommand wsX6_most := goodIn_r _ [8, 9, 10] (by decide +kernel) (by decide +kernel)
set_option maxRecDepth 20000 in
theorem gX6_takesCommand_X6_most : GoodIn wsX6_takesCommand (va_wsS RX6 48 yX6_most wsX6_most) := goodIn_app (goodIn_of _ (by decide +kernel)) ggX6_takesCommand_X6_most
theorem dX6_takesCommand_0 : decode cX6_takesCommand 0 = .ok (.iload_n 1, 1) := by decide +kernel
theorem dX6_takesCommand_1 : decode cX6_takesCommand 1 = .ok (.invokestatic 48, 3) := by decide +kernel
theorem dX6_takesCommand_4 : decode cX6_takesCommand 4 = .ok (.ifCond .ge 5, 3) := by decide +kernel
theorem dX6_takesCommand_7 : decode cX6_takesCommand 7 = .ok (.iconst 0, 1) := by decide +kernel
theorem dX6_takesCommand_8 : decode cX6_takesCommand 8 = .ok (.ireturn, 1) := by decide +kernel
theorem dX6_takesCommand_9 : decode cX6_takesCommand 9 = .ok (.aload_n 0, 1) := by decide +kernel
theorem dX6_takesCommand_10 : decode cX6_takesCommand 10 = .ok (.iload_n 1, 1) := by decide +kernel
theorem dX6_takesCommand_11 : decode cX6_takesCommand 11 = .ok (.putfield 23, 3) := by decide +kernel
theorem dX6_takesCommand_14 : decode cX6_takesCommand 14 = .ok (.aload_n 0, 1) := by decide +kernel
theorem dX6_takesCommand_15 : decode cX6_takesCommand 15 = .ok (.iconst 0, 1) := by decide +kernel
theorem dX6_takesCommand_16 : decode cX6_takesCommand 16 = .ok (.putfield 15, 3) := by decide +kernel
theorem dX6_takesCommand_19 : decode cX6_takesCommand 19 = .ok (.aload_n 0, 1) := by decide +kernel
theorem dX6_takesCommand_20 : decode cX6_takesCommand 20 = .ok (.lconst 0, 1) := by decide +kernel
theorem dX6_takesCommand_21 : decode cX6_takesCommand 21 = .ok (.putfield 19, 3) := by decide +kernel
theorem dX6_takesCommand_24 : decode cX6_takesCommand 24 = .ok (.aload_n 0, 1) := by decide +kernel
theorem dX6_takesCommand_25 : decode cX6_takesCommand 25 = .ok (.iload_n 1, 1) := by decide +kernel
theorem dX6_takesCommand_26 : decode cX6_takesCommand 26 = .ok (.bipush 65, 2) := by decide +kernel
theorem dX6_takesCommand_28 : decode cX6_takesCommand 28 = .ok (.if_icmp .ne 7, 3) := by decide +kernel
theorem dX6_takesCommand_31 : decode cX6_takesCommand 31 = .ok (.iconst 4, 1) := by decide +kernel
theorem dX6_takesCommand_32 : decode cX6_takesCommand 32 = .ok (.goto 4, 3) := by decide +kernel
theorem dX6_takesCommand_35 : decode cX6_takesCommand 35 = .ok (.iconst 1, 1) := by decide +kernel
theorem dX6_takesCommand_36 : decode cX6_takesCommand 36 = .ok (.putfield 11, 3) := by decide +kernel
theorem dX6_takesCommand_39 : decode cX6_takesCommand 39 = .ok (.iconst 1, 1) := by decide +kernel
theorem dX6_takesCommand_40 : decode cX6_takesCommand 40 = .ok (.ireturn, 1) := by decide +kernel
set_option maxRecDepth 20000 in
theorem ggX6_takesMinus_X6_least : GoodIn wsX6_takesMinus wsX6_least := goodIn_r _ [7, 8] (by decide +kernel) (by decide +kernel)
set_option maxRecDepth 20000 in
theorem gX6_takesMinus_X6_least : GoodIn wsX6_takesMinus (va_wsS RX6 30 yX6_least wsX6_least) := goodIn_app (goodIn_of _ (by decide +kernel)) ggX6_takesMinus_X6_least
theorem dX6_takesMinus_0 : decode cX6_takesMinus 0 = .ok (.aload_n 0, 1) := by decide +kernel
theorem dX6_takesMinus_1 : decode cX6_takesMinus 1 = .ok (.getfield 23, 3) := by decide +kernel
theorem dX6_takesMinus_4 : decode cX6_takesMinus 4 = .ok (.invokestatic 30, 3) := by decide +kernel
theorem dX6_takesMinus_7 : decode cX6_takesMinus 7 = .ok (.ifCond .lt 5, 3) := by decide +kernel
theorem dX6_takesMinus_10 : decode cX6_takesMinus 10 = .ok (.iconst 0, 1) := by decide +kernel
theorem dX6_takesMinus_11 : decode cX6_takesMinus 11 = .ok (.ireturn, 1) := by decide +kernel
theorem dX6_takesMinus_12 : decode cX6_takesMinus 12 = .ok (.aload_n 0, 1) := by decide +kernel
theorem dX6_takesMinus_13 : decode cX6_takesMinus 13 = .ok (.iconst 1, 1) := by decide +kernel
theorem dX6_takesMinus_14 : decode cX6_takesMinus 14 = .ok (.putfield 15, 3) := by decide +kernel
theorem dX6_takesMinus_17 : decode cX6_takesMinus 17 = .ok (.aload_n 0, 1) := by decide +kernel
theorem dX6_takesMinus_18 : decode cX6_takesMinus 18 = .ok (.iconst 2, 1) := by decide +kernel
theorem dX6_takesMinus_19 : decode cX6_takesMinus 19 = .ok (.putfield 11, 3) := by decide +kernel
theorem dX6_takesMinus_22 : decode cX6_takesMinus 22 = .ok (.iconst 1, 1) := by decide +kernel
theorem dX6_takesMinus_23 : decode cX6_takesMinus 23 = .ok (.ireturn, 1) := by decide +kernel
set_option maxRecDepth 20000 in
theorem ggX6_takesFigure_X6_least : GoodIn wsX6_takesFigure wsX6_least := goodIn_r _ [9, 10] (by decide +kernel) (by decide +kernel)
set_option maxRecDepth 20000 in
theorem gX6_takesFigure_X6_least : GoodIn wsX6_takesFigure (va_wsS RX6 30 yX6_least wsX6_least) := goodIn_app (goodIn_of _ (by decide +kernel)) ggX6_takesFigure_X6_least
set_option maxRecDepth 20000 in
theorem ggX6_takesFigure_X6_most : GoodIn wsX6_takesFigure wsX6_most := goodIn_r _ [13, 14, 15] (by decide +kernel) (by decide +kernel)
set_option maxRecDepth 20000 in
theorem gX6_takesFigure_X6_most : GoodIn wsX6_takesFigure (va_wsS RX6 48 yX6_most wsX6_most) := goodIn_app (goodIn_of _ (by decide +kernel)) ggX6_takesFigure_X6_most
theorem dX6_takesFigure_0 : decode cX6_takesFigure 0 = .ok (.iload_n 1, 1) := by decide +kernel
theorem dX6_takesFigure_1 : decode cX6_takesFigure 1 = .ok (.bipush 48, 2) := by decide +kernel
theorem dX6_takesFigure_3 : decode cX6_takesFigure 3 = .ok (.if_icmp .lt 9, 3) := by decide +kernel
theorem dX6_takesFigure_6 : decode cX6_takesFigure 6 = .ok (.iload_n 1, 1) := by decide +kernel
theorem dX6_takesFigure_7 : decode cX6_takesFigure 7 = .ok (.bipush 57, 2) := by decide +kernel
theorem dX6_takesFigure_9 : decode cX6_takesFigure 9 = .ok (.if_icmp .le 5, 3) := by decide +kernel
theorem dX6_takesFigure_12 : decode cX6_takesFigure 12 = .ok (.iconst 0, 1) := by decide +kernel
theorem dX6_takesFigure_13 : decode cX6_takesFigure 13 = .ok (.ireturn, 1) := by decide +kernel
theorem dX6_takesFigure_14 : decode cX6_takesFigure 14 = .ok (.aload_n 0, 1) := by decide +kernel
theorem dX6_takesFigure_15 : decode cX6_takesFigure 15 = .ok (.getfield 19, 3) := by decide +kernel
theorem dX6_takesFigure_18 : decode cX6_takesFigure 18 = .ok (.ldc2_w 51, 3) := by decide +kernel
theorem dX6_takesFigure_21 : decode cX6_takesFigure 21 = .ok (.lmul, 1) := by decide +kernel
theorem dX6_takesFigure_22 : decode cX6_takesFigure 22 = .ok (.iload_n 1, 1) := by decide +kernel
theorem dX6_takesFigure_23 : decode cX6_takesFigure 23 = .ok (.bipush 48, 2) := by decide +kernel
theorem dX6_takesFigure_25 : decode cX6_takesFigure 25 = .ok (.isub, 1) := by decide +kernel
theorem dX6_takesFigure_26 : decode cX6_takesFigure 26 = .ok (.i2l, 1) := by decide +kernel
theorem dX6_takesFigure_27 : decode cX6_takesFigure 27 = .ok (.ladd, 1) := by decide +kernel
theorem dX6_takesFigure_28 : decode cX6_takesFigure 28 = .ok (.lstore_n 2, 1) := by decide +kernel
theorem dX6_takesFigure_29 : decode cX6_takesFigure 29 = .ok (.aload_n 0, 1) := by decide +kernel
theorem dX6_takesFigure_30 : decode cX6_takesFigure 30 = .ok (.getfield 15, 3) := by decide +kernel
theorem dX6_takesFigure_33 : decode cX6_takesFigure 33 = .ok (.ifCond .eq 20, 3) := by decide +kernel
theorem dX6_takesFigure_36 : decode cX6_takesFigure 36 = .ok (.lload_n 2, 1) := by decide +kernel
theorem dX6_takesFigure_37 : decode cX6_takesFigure 37 = .ok (.lneg, 1) := by decide +kernel
theorem dX6_takesFigure_38 : decode cX6_takesFigure 38 = .ok (.aload_n 0, 1) := by decide +kernel
theorem dX6_takesFigure_39 : decode cX6_takesFigure 39 = .ok (.getfield 23, 3) := by decide +kernel
theorem dX6_takesFigure_42 : decode cX6_takesFigure 42 = .ok (.invokestatic 30, 3) := by decide +kernel
theorem dX6_takesFigure_45 : decode cX6_takesFigure 45 = .ok (.i2l, 1) := by decide +kernel
theorem dX6_takesFigure_46 : decode cX6_takesFigure 46 = .ok (.lcmp, 1) := by decide +kernel
theorem dX6_takesFigure_47 : decode cX6_takesFigure 47 = .ok (.ifCond .ge 21, 3) := by decide +kernel
theorem dX6_takesFigure_50 : decode cX6_takesFigure 50 = .ok (.goto 16, 3) := by decide +kernel
theorem dX6_takesFigure_53 : decode cX6_takesFigure 53 = .ok (.lload_n 2, 1) := by decide +kernel
theorem dX6_takesFigure_54 : decode cX6_takesFigure 54 = .ok (.aload_n 0, 1) := by decide +kernel
theorem dX6_takesFigure_55 : decode cX6_takesFigure 55 = .ok (.getfield 23, 3) := by decide +kernel
theorem dX6_takesFigure_58 : decode cX6_takesFigure 58 = .ok (.invokestatic 48, 3) := by decide +kernel
theorem dX6_takesFigure_61 : decode cX6_takesFigure 61 = .ok (.i2l, 1) := by decide +kernel
theorem dX6_takesFigure_62 : decode cX6_takesFigure 62 = .ok (.lcmp, 1) := by decide +kernel
theorem dX6_takesFigure_63 : decode cX6_takesFigure 63 = .ok (.ifCond .le 5, 3) := by decide +kernel
theorem dX6_takesFigure_66 : decode cX6_takesFigure 66 = .ok (.iconst 0, 1) := by decide +kernel
theorem dX6_takesFigure_67 : decode cX6_takesFigure 67 = .ok (.ireturn, 1) := by decide +kernel
theorem dX6_takesFigure_68 : decode cX6_takesFigure 68 = .ok (.aload_n 0, 1) := by decide +kernel
theorem dX6_takesFigure_69 : decode cX6_takesFigure 69 = .ok (.lload_n 2, 1) := by decide +kernel
theorem dX6_takesFigure_70 : decode cX6_takesFigure 70 = .ok (.putfield 19, 3) := by decide +kernel
theorem dX6_takesFigure_73 : decode cX6_takesFigure 73 = .ok (.aload_n 0, 1) := by decide +kernel
theorem dX6_takesFigure_74 : decode cX6_takesFigure 74 = .ok (.lload_n 2, 1) := by decide +kernel
theorem dX6_takesFigure_75 : decode cX6_takesFigure 75 = .ok (.lconst 0, 1) := by decide +kernel
theorem dX6_takesFigure_76 : decode cX6_takesFigure 76 = .ok (.lcmp, 1) := by decide +kernel
theorem dX6_takesFigure_77 : decode cX6_takesFigure 77 = .ok (.ifCond .ne 7, 3) := by decide +kernel
theorem dX6_takesFigure_80 : decode cX6_takesFigure 80 = .ok (.iconst 4, 1) := by decide +kernel
theorem dX6_takesFigure_81 : decode cX6_takesFigure 81 = .ok (.goto 4, 3) := by decide +kernel
theorem dX6_takesFigure_84 : decode cX6_takesFigure 84 = .ok (.iconst 3, 1) := by decide +kernel
theorem dX6_takesFigure_85 : decode cX6_takesFigure 85 = .ok (.putfield 11, 3) := by decide +kernel
theorem dX6_takesFigure_88 : decode cX6_takesFigure 88 = .ok (.iconst 1, 1) := by decide +kernel
theorem dX6_takesFigure_89 : decode cX6_takesFigure 89 = .ok (.ireturn, 1) := by decide +kernel
set_option maxRecDepth 20000 in
theorem ggX6_takesEnd_X6_mayEnd : GoodIn wsX6_takesEnd wsX6_mayEnd := goodIn_r _ [6, 1, 7, 8, 9, 10, 5, 11, 12, 13, 14, 15, 16, 17, 18, 19, 20, 21] (by decide +kernel) (by decide +kernel)
set_option maxRecDepth 20000 in
theorem gX6_takesEnd_X6_mayEnd : GoodIn wsX6_takesEnd (wsV RX6 53 RX6 yX6_mayEnd wsX6_mayEnd) := goodIn_app (goodIn_of _ (by decide +kernel)) ggX6_takesEnd_X6_mayEnd
theorem dX6_takesEnd_0 : decode cX6_takesEnd 0 = .ok (.aload_n 0, 1) := by decide +kernel
theorem dX6_takesEnd_1 : decode cX6_takesEnd 1 = .ok (.invokevirtual 53, 3) := by decide +kernel
theorem dX6_takesEnd_4 : decode cX6_takesEnd 4 = .ok (.ifCond .ne 5, 3) := by decide +kernel
theorem dX6_takesEnd_7 : decode cX6_takesEnd 7 = .ok (.iconst 0, 1) := by decide +kernel
theorem dX6_takesEnd_8 : decode cX6_takesEnd 8 = .ok (.ireturn, 1) := by decide +kernel
theorem dX6_takesEnd_9 : decode cX6_takesEnd 9 = .ok (.aload_n 0, 1) := by decide +kernel
theorem dX6_takesEnd_10 : decode cX6_takesEnd 10 = .ok (.iconst 0, 1) := by decide +kernel
theorem dX6_takesEnd_11 : decode cX6_takesEnd 11 = .ok (.putfield 11, 3) := by decide +kernel
theorem dX6_takesEnd_14 : decode cX6_takesEnd 14 = .ok (.iconst 1, 1) := by decide +kernel
theorem dX6_takesEnd_15 : decode cX6_takesEnd 15 = .ok (.ireturn, 1) := by decide +kernel
theorem dX6_least_0 : decode cX6_least 0 = .ok (.iload_n 0, 1) := by decide +kernel
theorem dX6_least_1 : decode cX6_least 1 = .ok (.lookupswitch 48 #[(68, 45), (70, 43), (71, 43), (78, 43)], 43) := by decide +kernel
theorem dX6_least_44 : decode cX6_least 44 = .ok (.iconst 1, 1) := by decide +kernel
theorem dX6_least_45 : decode cX6_least 45 = .ok (.ireturn, 1) := by decide +kernel
theorem dX6_least_46 : decode cX6_least 46 = .ok (.ldc 56, 2) := by decide +kernel
theorem dX6_least_48 : decode cX6_least 48 = .ok (.ireturn, 1) := by decide +kernel
theorem dX6_least_49 : decode cX6_least 49 = .ok (.iconst 0, 1) := by decide +kernel
theorem dX6_least_50 : decode cX6_least 50 = .ok (.ireturn, 1) := by decide +kernel
theorem dX6_most_0 : decode cX6_most 0 = .ok (.iload_n 0, 1) := by decide +kernel
theorem dX6_most_1 : decode cX6_most 1 = .ok (.tableswitch 140 65 90 #[124, 140, 140, 134, 140, 128, 137, 140, 140, 140, 140, 140, 140, 119, 140, 140, 140, 122, 140, 140, 140, 140, 131, 140, 140, 126], 119) := by decide +kernel
theorem dX6_most_120 : decode cX6_most 120 = .ok (.bipush 50, 2) := by decide +kernel
theorem dX6_most_122 : decode cX6_most 122 = .ok (.ireturn, 1) := by decide +kernel
theorem dX6_most_123 : decode cX6_most 123 = .ok (.iconst 2, 1) := by decide +kernel
theorem dX6_most_124 : decode cX6_most 124 = .ok (.ireturn, 1) := by decide +kernel
theorem dX6_most_125 : decode cX6_most 125 = .ok (.iconst 0, 1) := by decide +kernel
theorem dX6_most_126 : decode cX6_most 126 = .ok (.ireturn, 1) := by decide +kernel
theorem dX6_most_127 : decode cX6_most 127 = .ok (.iconst 2, 1) := by decide +kernel
theorem dX6_most_128 : decode cX6_most 128 = .ok (.ireturn, 1) := by decide +kernel
theorem dX6_most_129 : decode cX6_most 129 = .ok (.bipush 16, 2) := by decide +kernel
theorem dX6_most_131 : decode cX6_most 131 = .ok (.ireturn, 1) := by decide +kernel
theorem dX6_most_132 : decode cX6_most 132 = .ok (.ldc 57, 2) := by decide +kernel
theorem dX6_most_134 : decode cX6_most 134 = .ok (.ireturn, 1) := by decide +kernel
theorem dX6_most_135 : decode cX6_most 135 = .ok (.ldc 58, 2) := by decide +kernel
theorem dX6_most_137 : decode cX6_most 137 = .ok (.ireturn, 1) := by decide +kernel
theorem dX6_most_138 : decode cX6_most 138 = .ok (.bipush 9, 2) := by decide +kernel
theorem dX6_most_140 : decode cX6_most 140 = .ok (.ireturn, 1) := by decide +kernel
theorem dX6_most_141 : decode cX6_most 141 = .ok (.iconst (-1), 1) := by decide +kernel
theorem dX6_most_142 : decode cX6_most 142 = .ok (.ireturn, 1) := by decide +kernel
theorem dX7_init_0 : decode cX7_init 0 = .ok (.aload_n 0, 1) := by decide +kernel
theorem dX7_init_1 : decode cX7_init 1 = .ok (.invokespecial 3, 3) := by decide +kernel
theorem dX7_init_4 : decode cX7_init 4 = .ok (.aload_n 0, 1) := by decide +kernel
theorem dX7_init_5 : decode cX7_init 5 = .ok (.iconst 0, 1) := by decide +kernel
theorem dX7_init_6 : decode cX7_init 6 = .ok (.putfield 9, 3) := by decide +kernel
theorem dX7_init_9 : decode cX7_init 9 = .ok (.aload_n 0, 1) := by decide +kernel
theorem dX7_init_10 : decode cX7_init 10 = .ok (.iconst 0, 1) := by decide +kernel
theorem dX7_init_11 : decode cX7_init 11 = .ok (.putfield 15, 3) := by decide +kernel
theorem dX7_init_14 : decode cX7_init 14 = .ok (.aload_n 0, 1) := by decide +kernel
theorem dX7_init_15 : decode cX7_init 15 = .ok (.iconst 0, 1) := by decide +kernel
theorem dX7_init_16 : decode cX7_init 16 = .ok (.putfield 18, 3) := by decide +kernel
theorem dX7_init_19 : decode cX7_init 19 = .ok (.aload_n 0, 1) := by decide +kernel
theorem dX7_init_20 : decode cX7_init 20 = .ok (.iconst 0, 1) := by decide +kernel
theorem dX7_init_21 : decode cX7_init 21 = .ok (.putfield 21, 3) := by decide +kernel
theorem dX7_init_24 : decode cX7_init 24 = .ok (.aload_n 0, 1) := by decide +kernel
theorem dX7_init_25 : decode cX7_init 25 = .ok (.lconst 1, 1) := by decide +kernel
theorem dX7_init_26 : decode cX7_init 26 = .ok (.putfield 24, 3) := by decide +kernel
theorem dX7_init_29 : decode cX7_init 29 = .ok (.return_, 1) := by decide +kernel
set_option maxRecDepth 20000 in
theorem ggX7_calmAt_X7_swing : GoodIn wsX7_calmAt wsX7_swing := goodIn_r _ [9, 10, 4, 11, 12, 13, 14, 15, 16, 17, 18] (by decide +kernel) (by decide +kernel)
set_option maxRecDepth 20000 in
theorem gX7_calmAt_X7_swing : GoodIn wsX7_calmAt (wsV RX7 30 RX7 yX7_swing wsX7_swing) := goodIn_app (goodIn_of _ (by decide +kernel)) ggX7_calmAt_X7_swing
theorem dX7_calmAt_0 : decode cX7_calmAt 0 = .ok (.lload_n 1, 1) := by decide +kernel
theorem dX7_calmAt_1 : decode cX7_calmAt 1 = .ok (.ldc2_w 28, 3) := by decide +kernel
theorem dX7_calmAt_4 : decode cX7_calmAt 4 = .ok (.lrem, 1) := by decide +kernel
theorem dX7_calmAt_5 : decode cX7_calmAt 5 = .ok (.l2i, 1) := by decide +kernel
theorem dX7_calmAt_6 : decode cX7_calmAt 6 = .ok (.istore_n 3, 1) := by decide +kernel
theorem dX7_calmAt_7 : decode cX7_calmAt 7 = .ok (.aload_n 0, 1) := by decide +kernel
theorem dX7_calmAt_8 : decode cX7_calmAt 8 = .ok (.getfield 9, 3) := by decide +kernel
theorem dX7_calmAt_11 : decode cX7_calmAt 11 = .ok (.i2l, 1) := by decide +kernel
theorem dX7_calmAt_12 : decode cX7_calmAt 12 = .ok (.aload_n 0, 1) := by decide +kernel
theorem dX7_calmAt_13 : decode cX7_calmAt 13 = .ok (.getfield 15, 3) := by decide +kernel
theorem dX7_calmAt_16 : decode cX7_calmAt 16 = .ok (.i2l, 1) := by decide +kernel
theorem dX7_calmAt_17 : decode cX7_calmAt 17 = .ok (.aload_n 0, 1) := by decide +kernel
theorem dX7_calmAt_18 : decode cX7_calmAt 18 = .ok (.iload_n 3, 1) := by decide +kernel
theorem dX7_calmAt_19 : decode cX7_calmAt 19 = .ok (.invokevirtual 30, 3) := by decide +kernel
theorem dX7_calmAt_22 : decode cX7_calmAt 22 = .ok (.lmul, 1) := by decide +kernel
theorem dX7_calmAt_23 : decode cX7_calmAt 23 = .ok (.ldc2_w 34, 3) := by decide +kernel
theorem dX7_calmAt_26 : decode cX7_calmAt 26 = .ok (.ldiv, 1) := by decide +kernel
theorem dX7_calmAt_27 : decode cX7_calmAt 27 = .ok (.ladd, 1) := by decide +kernel
theorem dX7_calmAt_28 : decode cX7_calmAt 28 = .ok (.lreturn, 1) := by decide +kernel
theorem dX7_swing_0 : decode cX7_swing 0 = .ok (.aload_n 0, 1) := by decide +kernel
theorem dX7_swing_1 : decode cX7_swing 1 = .ok (.getfield 18, 3) := by decide +kernel
theorem dX7_swing_4 : decode cX7_swing 4 = .ok (.ifCond .ne 44, 3) := by decide +kernel
theorem dX7_swing_7 : decode cX7_swing 7 = .ok (.iload_n 1, 1) := by decide +kernel
theorem dX7_swing_8 : decode cX7_swing 8 = .ok (.bipush 10, 2) := by decide +kernel
theorem dX7_swing_10 : decode cX7_swing 10 = .ok (.irem, 1) := by decide +kernel
theorem dX7_swing_11 : decode cX7_swing 11 = .ok (.istore_n 2, 1) := by decide +kernel
theorem dX7_swing_12 : decode cX7_swing 12 = .ok (.iload_n 2, 1) := by decide +kernel
theorem dX7_swing_13 : decode cX7_swing 13 = .ok (.ifCond .lt 20, 3) := by decide +kernel
theorem dX7_swing_16 : decode cX7_swing 16 = .ok (.iload_n 2, 1) := by decide +kernel
theorem dX7_swing_17 : decode cX7_swing 17 = .ok (.getstatic 36, 3) := by decide +kernel
theorem dX7_swing_20 : decode cX7_swing 20 = .ok (.arraylength, 1) := by decide +kernel
theorem dX7_swing_21 : decode cX7_swing 21 = .ok (.if_icmp .ge 12, 3) := by decide +kernel
theorem dX7_swing_24 : decode cX7_swing 24 = .ok (.getstatic 36, 3) := by decide +kernel
theorem dX7_swing_27 : decode cX7_swing 27 = .ok (.iload_n 2, 1) := by decide +kernel
theorem dX7_swing_28 : decode cX7_swing 28 = .ok (.iaload, 1) := by decide +kernel
theorem dX7_swing_29 : decode cX7_swing 29 = .ok (.i2l, 1) := by decide +kernel
theorem dX7_swing_30 : decode cX7_swing 30 = .ok (.goto 4, 3) := by decide +kernel
theorem dX7_swing_33 : decode cX7_swing 33 = .ok (.lconst 0, 1) := by decide +kernel
theorem dX7_swing_34 : decode cX7_swing 34 = .ok (.lstore_n 3, 1) := by decide +kernel
theorem dX7_swing_35 : decode cX7_swing 35 = .ok (.iload_n 1, 1) := by decide +kernel
theorem dX7_swing_36 : decode cX7_swing 36 = .ok (.bipush 10, 2) := by decide +kernel
theorem dX7_swing_38 : decode cX7_swing 38 = .ok (.if_icmp .ge 7, 3) := by decide +kernel
theorem dX7_swing_41 : decode cX7_swing 41 = .ok (.lload_n 3, 1) := by decide +kernel
theorem dX7_swing_42 : decode cX7_swing 42 = .ok (.goto 5, 3) := by decide +kernel
theorem dX7_swing_45 : decode cX7_swing 45 = .ok (.lload_n 3, 1) := by decide +kernel
theorem dX7_swing_46 : decode cX7_swing 46 = .ok (.lneg, 1) := by decide +kernel
theorem dX7_swing_47 : decode cX7_swing 47 = .ok (.lreturn, 1) := by decide +kernel
theorem dX7_swing_48 : decode cX7_swing 48 = .ok (.aload_n 0, 1) := by decide +kernel
theorem dX7_swing_49 : decode cX7_swing 49 = .ok (.getfield 18, 3) := by decide +kernel
theorem dX7_swing_52 : decode cX7_swing 52 = .ok (.iconst 1, 1) := by decide +kernel
theorem dX7_swing_53 : decode cX7_swing 53 = .ok (.if_icmp .ne 19, 3) := by decide +kernel
theorem dX7_swing_56 : decode cX7_swing 56 = .ok (.iload_n 1, 1) := by decide +kernel
theorem dX7_swing_57 : decode cX7_swing 57 = .ok (.bipush 10, 2) := by decide +kernel
theorem dX7_swing_59 : decode cX7_swing 59 = .ok (.if_icmp .ge 9, 3) := by decide +kernel
theorem dX7_swing_62 : decode cX7_swing 62 = .ok (.ldc2_w 34, 3) := by decide +kernel
theorem dX7_swing_65 : decode cX7_swing 65 = .ok (.goto 6, 3) := by decide +kernel
theorem dX7_swing_68 : decode cX7_swing 68 = .ok (.ldc2_w 40, 3) := by decide +kernel
theorem dX7_swing_71 : decode cX7_swing 71 = .ok (.lreturn, 1) := by decide +kernel
theorem dX7_swing_72 : decode cX7_swing 72 = .ok (.ldc2_w 42, 3) := by decide +kernel
theorem dX7_swing_75 : decode cX7_swing 75 = .ok (.iload_n 1, 1) := by decide +kernel
theorem dX7_swing_76 : decode cX7_swing 76 = .ok (.i2l, 1) := by decide +kernel
theorem dX7_swing_77 : decode cX7_swing 77 = .ok (.lmul, 1) := by decide +kernel
theorem dX7_swing_78 : decode cX7_swing 78 = .ok (.ldc2_w 44, 3) := by decide +kernel
theorem dX7_swing_81 : decode cX7_swing 81 = .ok (.lsub, 1) := by decide +kernel
theorem dX7_swing_82 : decode cX7_swing 82 = .ok (.lreturn, 1) := by decide +kernel
set_option maxRecDepth 20000 in
theorem ggX7_stir_X7_draw : GoodIn wsX7_stir wsX7_draw := goodIn_r _ [7, 8, 9, 10, 11, 12, 13, 14, 15, 16, 17] (by decide +kernel) (by decide +kernel)
set_option maxRecDepth 20000 in
theorem gX7_stir_X7_draw : GoodIn wsX7_stir (wsV RX7 48 RX7 yX7_draw wsX7_draw) := goodIn_app (goodIn_of _ (by decide +kernel)) ggX7_stir_X7_draw
theorem dX7_stir_0 : decode cX7_stir 0 = .ok (.aload_n 0, 1) := by decide +kernel
theorem dX7_stir_1 : decode cX7_stir 1 = .ok (.getfield 21, 3) := by decide +kernel
theorem dX7_stir_4 : decode cX7_stir 4 = .ok (.ifCond .le 27, 3) := by decide +kernel
theorem dX7_stir_7 : decode cX7_stir 7 = .ok (.aload_n 0, 1) := by decide +kernel
theorem dX7_stir_8 : decode cX7_stir 8 = .ok (.ldc2_w 46, 3) := by decide +kernel
theorem dX7_stir_11 : decode cX7_stir 11 = .ok (.aload_n 0, 1) := by decide +kernel
theorem dX7_stir_12 : decode cX7_stir 12 = .ok (.getfield 21, 3) := by decide +kernel
theorem dX7_stir_15 : decode cX7_stir 15 = .ok (.i2l, 1) := by decide +kernel
theorem dX7_stir_16 : decode cX7_stir 16 = .ok (.lmul, 1) := by decide +kernel
theorem dX7_stir_17 : decode cX7_stir 17 = .ok (.lconst 1, 1) := by decide +kernel
theorem dX7_stir_18 : decode cX7_stir 18 = .ok (.ladd, 1) := by decide +kernel
theorem dX7_stir_19 : decode cX7_stir 19 = .ok (.invokevirtual 48, 3) := by decide +kernel
theorem dX7_stir_22 : decode cX7_stir 22 = .ok (.aload_n 0, 1) := by decide +kernel
theorem dX7_stir_23 : decode cX7_stir 23 = .ok (.getfield 21, 3) := by decide +kernel
theorem dX7_stir_26 : decode cX7_stir 26 = .ok (.i2l, 1) := by decide +kernel
theorem dX7_stir_27 : decode cX7_stir 27 = .ok (.lsub, 1) := by decide +kernel
theorem dX7_stir_28 : decode cX7_stir 28 = .ok (.goto 4, 3) := by decide +kernel
theorem dX7_stir_31 : decode cX7_stir 31 = .ok (.lconst 0, 1) := by decide +kernel
theorem dX7_stir_32 : decode cX7_stir 32 = .ok (.lreturn, 1) := by decide +kernel
theorem dX7_draw_0 : decode cX7_draw 0 = .ok (.aload_n 0, 1) := by decide +kernel
theorem dX7_draw_1 : decode cX7_draw 1 = .ok (.ldc2_w 52, 3) := by decide +kernel
theorem dX7_draw_4 : decode cX7_draw 4 = .ok (.aload_n 0, 1) := by decide +kernel
theorem dX7_draw_5 : decode cX7_draw 5 = .ok (.getfield 24, 3) := by decide +kernel
theorem dX7_draw_8 : decode cX7_draw 8 = .ok (.lmul, 1) := by decide +kernel
theorem dX7_draw_9 : decode cX7_draw 9 = .ok (.ldc2_w 54, 3) := by decide +kernel
theorem dX7_draw_12 : decode cX7_draw 12 = .ok (.ladd, 1) := by decide +kernel
theorem dX7_draw_13 : decode cX7_draw 13 = .ok (.ldc2_w 56, 3) := by decide +kernel
theorem dX7_draw_16 : decode cX7_draw 16 = .ok (.lrem, 1) := by decide +kernel
theorem dX7_draw_17 : decode cX7_draw 17 = .ok (.putfield 24, 3) := by decide +kernel
theorem dX7_draw_20 : decode cX7_draw 20 = .ok (.lload_n 1, 1) := by decide +kernel
theorem dX7_draw_21 : decode cX7_draw 21 = .ok (.lconst 0, 1) := by decide +kernel
theorem dX7_draw_22 : decode cX7_draw 22 = .ok (.lcmp, 1) := by decide +kernel
theorem dX7_draw_23 : decode cX7_draw 23 = .ok (.ifCond .le 16, 3) := by decide +kernel
theorem dX7_draw_26 : decode cX7_draw 26 = .ok (.aload_n 0, 1) := by decide +kernel
theorem dX7_draw_27 : decode cX7_draw 27 = .ok (.getfield 24, 3) := by decide +kernel
theorem dX7_draw_30 : decode cX7_draw 30 = .ok (.ldc2_w 58, 3) := by decide +kernel
theorem dX7_draw_33 : decode cX7_draw 33 = .ok (.ldiv, 1) := by decide +kernel
theorem dX7_draw_34 : decode cX7_draw 34 = .ok (.lload_n 1, 1) := by decide +kernel
theorem dX7_draw_35 : decode cX7_draw 35 = .ok (.lrem, 1) := by decide +kernel
theorem dX7_draw_36 : decode cX7_draw 36 = .ok (.goto 4, 3) := by decide +kernel
theorem dX7_draw_39 : decode cX7_draw 39 = .ok (.lconst 0, 1) := by decide +kernel
theorem dX7_draw_40 : decode cX7_draw 40 = .ok (.lreturn, 1) := by decide +kernel
theorem dX8_init_0 : decode cX8_init 0 = .ok (.aload_n 0, 1) := by decide +kernel
theorem dX8_init_1 : decode cX8_init 1 = .ok (.invokespecial 3, 3) := by decide +kernel
theorem dX8_init_4 : decode cX8_init 4 = .ok (.aload_n 0, 1) := by decide +kernel
theorem dX8_init_5 : decode cX8_init 5 = .ok (.iconst 3, 1) := by decide +kernel
theorem dX8_init_6 : decode cX8_init 6 = .ok (.newarray .long, 2) := by decide +kernel
theorem dX8_init_8 : decode cX8_init 8 = .ok (.putfield 9, 3) := by decide +kernel
theorem dX8_init_11 : decode cX8_init 11 = .ok (.aload_n 0, 1) := by decide +kernel
theorem dX8_init_12 : decode cX8_init 12 = .ok (.iconst 3, 1) := by decide +kernel
theorem dX8_init_13 : decode cX8_init 13 = .ok (.newarray .int, 2) := by decide +kernel
theorem dX8_init_15 : decode cX8_init 15 = .ok (.putfield 15, 3) := by decide +kernel
theorem dX8_init_18 : decode cX8_init 18 = .ok (.aload_n 0, 1) := by decide +kernel
theorem dX8_init_19 : decode cX8_init 19 = .ok (.iconst 3, 1) := by decide +kernel
theorem dX8_init_20 : decode cX8_init 20 = .ok (.newarray .int, 2) := by decide +kernel
theorem dX8_init_22 : decode cX8_init 22 = .ok (.putfield 19, 3) := by decide +kernel
theorem dX8_init_25 : decode cX8_init 25 = .ok (.return_, 1) := by decide +kernel
theorem dX8_isRange_0 : decode cX8_isRange 0 = .ok (.iload_n 0, 1) := by decide +kernel
theorem dX8_isRange_1 : decode cX8_isRange 1 = .ok (.ifCond .lt 12, 3) := by decide +kernel
theorem dX8_isRange_4 : decode cX8_isRange 4 = .ok (.iload_n 0, 1) := by decide +kernel
theorem dX8_isRange_5 : decode cX8_isRange 5 = .ok (.iconst 3, 1) := by decide +kernel
theorem dX8_isRange_6 : decode cX8_isRange 6 = .ok (.if_icmp .ge 7, 3) := by decide +kernel
theorem dX8_isRange_9 : decode cX8_isRange 9 = .ok (.iconst 1, 1) := by decide +kernel
theorem dX8_isRange_10 : decode cX8_isRange 10 = .ok (.goto 4, 3) := by decide +kernel
theorem dX8_isRange_13 : decode cX8_isRange 13 = .ok (.iconst 0, 1) := by decide +kernel
theorem dX8_isRange_14 : decode cX8_isRange 14 = .ok (.ireturn, 1) := by decide +kernel
set_option maxRecDepth 20000 in
theorem ggX8_has_X8_isRange : GoodIn wsX8_has wsX8_isRange := goodIn_r _ [5] (by decide +kernel) (by decide +kernel)
set_option maxRecDepth 20000 in
theorem gX8_has_X8_isRange : GoodIn wsX8_has (va_wsS RX8 22 yX8_isRange wsX8_isRange) := goodIn_app (goodIn_of _ (by decide +kernel)) ggX8_has_X8_isRange
theorem dX8_has_0 : decode cX8_has 0 = .ok (.iload_n 1, 1) := by decide +kernel
theorem dX8_has_1 : decode cX8_has 1 = .ok (.invokestatic 22, 3) := by decide +kernel
theorem dX8_has_4 : decode cX8_has 4 = .ok (.ifCond .eq 16, 3) := by decide +kernel
theorem dX8_has_7 : decode cX8_has 7 = .ok (.aload_n 0, 1) := by decide +kernel
theorem dX8_has_8 : decode cX8_has 8 = .ok (.getfield 19, 3) := by decide +kernel
theorem dX8_has_11 : decode cX8_has 11 = .ok (.iload_n 1, 1) := by decide +kernel
theorem dX8_has_12 : decode cX8_has 12 = .ok (.iaload, 1) := by decide +kernel
theorem dX8_has_13 : decode cX8_has 13 = .ok (.ifCond .le 7, 3) := by decide +kernel
theorem dX8_has_16 : decode cX8_has 16 = .ok (.iconst 1, 1) := by decide +kernel
theorem dX8_has_17 : decode cX8_has 17 = .ok (.goto 4, 3) := by decide +kernel
theorem dX8_has_20 : decode cX8_has 20 = .ok (.iconst 0, 1) := by decide +kernel
theorem dX8_has_21 : decode cX8_has 21 = .ok (.ireturn, 1) := by decide +kernel
set_option maxRecDepth 20000 in
theorem ggX8_serves_X8_has : GoodIn wsX8_serves wsX8_has := goodIn_r _ [7, 2, 8, 9, 6, 10, 11, 12, 13] (by decide +kernel) (by decide +kernel)
set_option maxRecDepth 20000 in
theorem gX8_serves_X8_has : GoodIn wsX8_serves (wsV RX8 26 RX8 yX8_has wsX8_has) := goodIn_app (goodIn_of _ (by decide +kernel)) ggX8_serves_X8_has
theorem dX8_serves_0 : decode cX8_serves 0 = .ok (.aload_n 0, 1) := by decide +kernel
theorem dX8_serves_1 : decode cX8_serves 1 = .ok (.iload_n 1, 1) := by decide +kernel
theorem dX8_serves_2 : decode cX8_serves 2 = .ok (.invokevirtual 26, 3) := by decide +kernel
theorem dX8_serves_5 : decode cX8_serves 5 = .ok (.ifCond .eq 29, 3) := by decide +kernel
theorem dX8_serves_8 : decode cX8_serves 8 = .ok (.aload_n 0, 1) := by decide +kernel
theorem dX8_serves_9 : decode cX8_serves 9 = .ok (.getfield 15, 3) := by decide +kernel
theorem dX8_serves_12 : decode cX8_serves 12 = .ok (.iload_n 1, 1) := by decide +kernel
theorem dX8_serves_13 : decode cX8_serves 13 = .ok (.iaload, 1) := by decide +kernel
theorem dX8_serves_14 : decode cX8_serves 14 = .ok (.iload_n 2, 1) := by decide +kernel
theorem dX8_serves_15 : decode cX8_serves 15 = .ok (.if_icmp .ne 19, 3) := by decide +kernel
theorem dX8_serves_18 : decode cX8_serves 18 = .ok (.aload_n 0, 1) := by decide +kernel
theorem dX8_serves_19 : decode cX8_serves 19 = .ok (.getfield 19, 3) := by decide +kernel
theorem dX8_serves_22 : decode cX8_serves 22 = .ok (.iload_n 1, 1) := by decide +kernel
theorem dX8_serves_23 : decode cX8_serves 23 = .ok (.iaload, 1) := by decide +kernel
theorem dX8_serves_24 : decode cX8_serves 24 = .ok (.iload_n 3, 1) := by decide +kernel
theorem dX8_serves_25 : decode cX8_serves 25 = .ok (.iconst 4, 1) := by decide +kernel
theorem dX8_serves_26 : decode cX8_serves 26 = .ok (.isub, 1) := by decide +kernel
theorem dX8_serves_27 : decode cX8_serves 27 = .ok (.if_icmp .lt 7, 3) := by decide +kernel
theorem dX8_serves_30 : decode cX8_serves 30 = .ok (.iconst 1, 1) := by decide +kernel
theorem dX8_serves_31 : decode cX8_serves 31 = .ok (.goto 4, 3) := by decide +kernel
theorem dX8_serves_34 : decode cX8_serves 34 = .ok (.iconst 0, 1) := by decide +kernel
theorem dX8_serves_35 : decode cX8_serves 35 = .ok (.ireturn, 1) := by decide +kernel
set_option maxRecDepth 20000 in
theorem ggX8_sumOf_X8_isRange : GoodIn wsX8_sumOf wsX8_isRange := goodIn_r _ [5] (by decide +kernel) (by decide +kernel)
set_option maxRecDepth 20000 in
theorem gX8_sumOf_X8_isRange : GoodIn wsX8_sumOf (va_wsS RX8 22 yX8_isRange wsX8_isRange) := goodIn_app (goodIn_of _ (by decide +kernel)) ggX8_sumOf_X8_isRange
theorem dX8_sumOf_0 : decode cX8_sumOf 0 = .ok (.iload_n 1, 1) := by decide +kernel
theorem dX8_sumOf_1 : decode cX8_sumOf 1 = .ok (.invokestatic 22, 3) := by decide +kernel
theorem dX8_sumOf_4 : decode cX8_sumOf 4 = .ok (.ifCond .eq 12, 3) := by decide +kernel
theorem dX8_sumOf_7 : decode cX8_sumOf 7 = .ok (.aload_n 0, 1) := by decide +kernel
theorem dX8_sumOf_8 : decode cX8_sumOf 8 = .ok (.getfield 9, 3) := by decide +kernel
theorem dX8_sumOf_11 : decode cX8_sumOf 11 = .ok (.iload_n 1, 1) := by decide +kernel
theorem dX8_sumOf_12 : decode cX8_sumOf 12 = .ok (.laload, 1) := by decide +kernel
theorem dX8_sumOf_13 : decode cX8_sumOf 13 = .ok (.goto 4, 3) := by decide +kernel
theorem dX8_sumOf_16 : decode cX8_sumOf 16 = .ok (.lconst 0, 1) := by decide +kernel
theorem dX8_sumOf_17 : decode cX8_sumOf 17 = .ok (.lreturn, 1) := by decide +kernel
set_option maxRecDepth 20000 in
theorem ggX8_keep_X8_isRange : GoodIn wsX8_keep wsX8_isRange := goodIn_r _ [7] (by decide +kernel) (by decide +kernel)
set_option maxRecDepth 20000 in
theorem gX8_keep_X8_isRange : GoodIn wsX8_keep (va_wsS RX8 22 yX8_isRange wsX8_isRange) := goodIn_app (goodIn_of _ (by decide +kernel)) ggX8_keep_X8_isRange
theorem dX8_keep_0 : decode cX8_keep 0 = .ok (.iload_n 1, 1) := by decide +kernel
theorem dX8_keep_1 : decode cX8_keep 1 = .ok (.invokestatic 22, 3) := by decide +kernel
theorem dX8_keep_4 : decode cX8_keep 4 = .ok (.ifCond .eq 26, 3) := by decide +kernel
theorem dX8_keep_7 : decode cX8_keep 7 = .ok (.aload_n 0, 1) := by decide +kernel
theorem dX8_keep_8 : decode cX8_keep 8 = .ok (.getfield 9, 3) := by decide +kernel
theorem dX8_keep_11 : decode cX8_keep 11 = .ok (.iload_n 1, 1) := by decide +kernel
theorem dX8_keep_12 : decode cX8_keep 12 = .ok (.lload_n 2, 1) := by decide +kernel
theorem dX8_keep_13 : decode cX8_keep 13 = .ok (.lastore, 1) := by decide +kernel
theorem dX8_keep_14 : decode cX8_keep 14 = .ok (.aload_n 0, 1) := by decide +kernel
theorem dX8_keep_15 : decode cX8_keep 15 = .ok (.getfield 15, 3) := by decide +kernel
theorem dX8_keep_18 : decode cX8_keep 18 = .ok (.iload_n 1, 1) := by decide +kernel
theorem dX8_keep_19 : decode cX8_keep 19 = .ok (.iload 4, 2) := by decide +kernel
theorem dX8_keep_21 : decode cX8_keep 21 = .ok (.iastore, 1) := by decide +kernel
theorem dX8_keep_22 : decode cX8_keep 22 = .ok (.aload_n 0, 1) := by decide +kernel
theorem dX8_keep_23 : decode cX8_keep 23 = .ok (.getfield 19, 3) := by decide +kernel
theorem dX8_keep_26 : decode cX8_keep 26 = .ok (.iload_n 1, 1) := by decide +kernel
theorem dX8_keep_27 : decode cX8_keep 27 = .ok (.iload 5, 2) := by decide +kernel
theorem dX8_keep_29 : decode cX8_keep 29 = .ok (.iastore, 1) := by decide +kernel
theorem dX8_keep_30 : decode cX8_keep 30 = .ok (.return_, 1) := by decide +kernel
theorem dX8_forget_0 : decode cX8_forget 0 = .ok (.iconst 0, 1) := by decide +kernel
theorem dX8_forget_1 : decode cX8_forget 1 = .ok (.istore_n 1, 1) := by decide +kernel
theorem dX8_forget_2 : decode cX8_forget 2 = .ok (.iload_n 1, 1) := by decide +kernel
theorem dX8_forget_3 : decode cX8_forget 3 = .ok (.iconst 3, 1) := by decide +kernel
theorem dX8_forget_4 : decode cX8_forget 4 = .ok (.if_icmp .ge 16, 3) := by decide +kernel
theorem dX8_forget_7 : decode cX8_forget 7 = .ok (.aload_n 0, 1) := by decide +kernel
theorem dX8_forget_8 : decode cX8_forget 8 = .ok (.getfield 19, 3) := by decide +kernel
theorem dX8_forget_11 : decode cX8_forget 11 = .ok (.iload_n 1, 1) := by decide +kernel
theorem dX8_forget_12 : decode cX8_forget 12 = .ok (.iconst 0, 1) := by decide +kernel
theorem dX8_forget_13 : decode cX8_forget 13 = .ok (.iastore, 1) := by decide +kernel
theorem dX8_forget_14 : decode cX8_forget 14 = .ok (.iinc 1 1, 3) := by decide +kernel
theorem dX8_forget_17 : decode cX8_forget 17 = .ok (.goto (-15), 3) := by decide +kernel
theorem dX8_forget_20 : decode cX8_forget 20 = .ok (.return_, 1) := by decide +kernel
set_option maxRecDepth 20000 in
theorem ggX8_part_X8_isRange : GoodIn wsX8_part wsX8_isRange := goodIn_r _ [9] (by decide +kernel) (by decide +kernel)
set_option maxRecDepth 20000 in
theorem gX8_part_X8_isRange : GoodIn wsX8_part (va_wsS RX8 22 yX8_isRange wsX8_isRange) := goodIn_app (goodIn_of _ (by decide +kernel)) ggX8_part_X8_isRange
theorem dX8_part_0 : decode cX8_part 0 = .ok (.iload_n 1, 1) := by decide +kernel
theorem dX8_part_1 : decode cX8_part 1 = .ok (.invokestatic 22, 3) := by decide +kernel
theorem dX8_part_4 : decode cX8_part 4 = .ok (.ifCond .ne 6, 3) := by decide +kernel
theorem dX8_part_7 : decode cX8_part 7 = .ok (.ldc 29, 2) := by decide +kernel
theorem dX8_part_9 : decode cX8_part 9 = .ok (.ireturn, 1) := by decide +kernel
theorem dX8_part_10 : decode cX8_part 10 = .ok (.iload_n 2, 1) := by decide +kernel
theorem dX8_part_11 : decode cX8_part 11 = .ok (.tableswitch 56 0 2 #[25, 37, 49], 25) := by decide +kernel
theorem dX8_part_36 : decode cX8_part 36 = .ok (.aload_n 0, 1) := by decide +kernel
theorem dX8_part_37 : decode cX8_part 37 = .ok (.getfield 9, 3) := by decide +kernel
theorem dX8_part_40 : decode cX8_part 40 = .ok (.iload_n 1, 1) := by decide +kernel
theorem dX8_part_41 : decode cX8_part 41 = .ok (.laload, 1) := by decide +kernel
theorem dX8_part_42 : decode cX8_part 42 = .ok (.ldc2_w 30, 3) := by decide +kernel
theorem dX8_part_45 : decode cX8_part 45 = .ok (.ldiv, 1) := by decide +kernel
theorem dX8_part_46 : decode cX8_part 46 = .ok (.l2i, 1) := by decide +kernel
theorem dX8_part_47 : decode cX8_part 47 = .ok (.ireturn, 1) := by decide +kernel
theorem dX8_part_48 : decode cX8_part 48 = .ok (.aload_n 0, 1) := by decide +kernel
theorem dX8_part_49 : decode cX8_part 49 = .ok (.getfield 9, 3) := by decide +kernel
theorem dX8_part_52 : decode cX8_part 52 = .ok (.iload_n 1, 1) := by decide +kernel
theorem dX8_part_53 : decode cX8_part 53 = .ok (.laload, 1) := by decide +kernel
theorem dX8_part_54 : decode cX8_part 54 = .ok (.ldc2_w 30, 3) := by decide +kernel
theorem dX8_part_57 : decode cX8_part 57 = .ok (.lrem, 1) := by decide +kernel
theorem dX8_part_58 : decode cX8_part 58 = .ok (.l2i, 1) := by decide +kernel
theorem dX8_part_59 : decode cX8_part 59 = .ok (.ireturn, 1) := by decide +kernel
theorem dX8_part_60 : decode cX8_part 60 = .ok (.aload_n 0, 1) := by decide +kernel
theorem dX8_part_61 : decode cX8_part 61 = .ok (.getfield 15, 3) := by decide +kernel
theorem dX8_part_64 : decode cX8_part 64 = .ok (.iload_n 1, 1) := by decide +kernel
theorem dX8_part_65 : decode cX8_part 65 = .ok (.iaload, 1) := by decide +kernel
theorem dX8_part_66 : decode cX8_part 66 = .ok (.ireturn, 1) := by decide +kernel
theorem dX8_part_67 : decode cX8_part 67 = .ok (.aload_n 0, 1) := by decide +kernel
theorem dX8_part_68 : decode cX8_part 68 = .ok (.getfield 19, 3) := by decide +kernel
theorem dX8_part_71 : decode cX8_part 71 = .ok (.iload_n 1, 1) := by decide +kernel
theorem dX8_part_72 : decode cX8_part 72 = .ok (.iaload, 1) := by decide +kernel
theorem dX8_part_73 : decode cX8_part 73 = .ok (.ireturn, 1) := by decide +kernel
