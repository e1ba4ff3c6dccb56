set_option maxRecDepth 20000 in
theorem ggX9_init_X1_init : GoodIn wsX9_init wsX1_init := goodIn_r _ [36, 37, 2, 3, 38, 39, 40, 41, 42, 43, 44, 45, 46, 47, 48, 49, 50, 51, 52, 53, 54, 55, 56, 57, 58, 59, 60, 61, 62, 63, 64, 65, 66, 67, 68, 69, 70, 71, 72, 73, 74, 75, 76, 77, 78, 79, 80, 81, 82, 153, 154, 155, 156, 157, 116, 117, 118, 119, 120, 121, 122, 158, 159, 160, 161, 162, 163, 164, 165, 166, 167, 168, 169, 170, 171] (by decide +kernel) (by decide +kernel)
set_option maxRecDepth 20000 in
theorem gX9_init_X1_init_n9 : GoodIn wsX9_init (wsX1_init) := ggX9_init_X1_init
set_option maxRecDepth 20000 in
theorem ggX9_init_X8_init : GoodIn wsX9_init wsX8_init := goodIn_r _ [84, 85, 2, 3, 86, 87, 81, 88, 89, 136, 137, 138] (by decide +kernel) (by decide +kernel)
set_option maxRecDepth 20000 in
theorem gX9_init_X8_init_n18 : GoodIn wsX9_init (wsX8_init) := ggX9_init_X8_init
set_option maxRecDepth 20000 in
theorem ggX9_init_X4_init : GoodIn wsX9_init wsX4_init := goodIn_r _ [91, 92, 2, 3, 86, 93, 94, 95, 96, 97, 139, 140, 141, 142, 143] (by decide +kernel) (by decide +kernel)
set_option maxRecDepth 20000 in
theorem gX9_init_X4_init_n25 : GoodIn wsX9_init (wsX4_init) := ggX9_init_X4_init
set_option maxRecDepth 20000 in
theorem ggX9_init_X3_init : GoodIn wsX9_init wsX3_init := goodIn_r _ [99, 100, 2, 3, 81, 101, 102, 103, 144, 145, 146] (by decide +kernel) (by decide +kernel)
set_option maxRecDepth 20000 in
theorem gX9_init_X3_init_n32 : GoodIn wsX9_init (wsX3_init) := ggX9_init_X3_init
set_option maxRecDepth 20000 in
theorem ggX9_init_X5_init : GoodIn wsX9_init wsX5_init := goodIn_r _ [105, 106, 2, 3, 81, 107, 108, 147, 148] (by decide +kernel) (by decide +kernel)
set_option maxRecDepth 20000 in
theorem gX9_init_X5_init_n39 : GoodIn wsX9_init (wsX5_init) := ggX9_init_X5_init
set_option maxRecDepth 20000 in
theorem ggX9_init_X6_init : GoodIn wsX9_init wsX6_init := goodIn_r _ [110, 111, 2, 3, 112, 113, 114, 115, 149, 150, 151, 152] (by decide +kernel) (by decide +kernel)
set_option maxRecDepth 20000 in
theorem gX9_init_X6_init_n46 : GoodIn wsX9_init (wsX6_init) := ggX9_init_X6_init
theorem dX9_init_0 : decode cX9_init 0 = .ok (.aload_n 0, 1) := by decide +kernel
theorem dX9_init_1 : decode cX9_init 1 = .ok (.invokespecial 1, 3) := by decide +kernel
theorem dX9_init_4 : decode cX9_init 4 = .ok (.aload_n 0, 1) := by decide +kernel
theorem dX9_init_5 : decode cX9_init 5 = .ok (.new 7, 3) := by decide +kernel
theorem dX9_init_8 : decode cX9_init 8 = .ok (.dup, 1) := by decide +kernel
theorem dX9_init_9 : decode cX9_init 9 = .ok (.invokespecial 9, 3) := by decide +kernel
theorem dX9_init_12 : decode cX9_init 12 = .ok (.putfield 10, 3) := by decide +kernel
theorem dX9_init_15 : decode cX9_init 15 = .ok (.aload_n 0, 1) := by decide +kernel
theorem dX9_init_16 : decode cX9_init 16 = .ok (.new 16, 3) := by decide +kernel
theorem dX9_init_19 : decode cX9_init 19 = .ok (.dup, 1) := by decide +kernel
theorem dX9_init_20 : decode cX9_init 20 = .ok (.invokespecial 18, 3) := by decide +kernel
theorem dX9_init_23 : decode cX9_init 23 = .ok (.putfield 19, 3) := by decide +kernel
theorem dX9_init_26 : decode cX9_init 26 = .ok (.aload_n 0, 1) := by decide +kernel
theorem dX9_init_27 : decode cX9_init 27 = .ok (.new 23, 3) := by decide +kernel
theorem dX9_init_30 : decode cX9_init 30 = .ok (.dup, 1) := by decide +kernel
theorem dX9_init_31 : decode cX9_init 31 = .ok (.invokespecial 25, 3) := by decide +kernel
theorem dX9_init_34 : decode cX9_init 34 = .ok (.putfield 26, 3) := by decide +kernel
theorem dX9_init_37 : decode cX9_init 37 = .ok (.aload_n 0, 1) := by decide +kernel
theorem dX9_init_38 : decode cX9_init 38 = .ok (.new 30, 3) := by decide +kernel
theorem dX9_init_41 : decode cX9_init 41 = .ok (.dup, 1) := by decide +kernel
theorem dX9_init_42 : decode cX9_init 42 = .ok (.invokespecial 32, 3) := by decide +kernel
theorem dX9_init_45 : decode cX9_init 45 = .ok (.putfield 33, 3) := by decide +kernel
theorem dX9_init_48 : decode cX9_init 48 = .ok (.aload_n 0, 1) := by decide +kernel
theorem dX9_init_49 : decode cX9_init 49 = .ok (.new 37, 3) := by decide +kernel
theorem dX9_init_52 : decode cX9_init 52 = .ok (.dup, 1) := by decide +kernel
theorem dX9_init_53 : decode cX9_init 53 = .ok (.invokespecial 39, 3) := by decide +kernel
theorem dX9_init_56 : decode cX9_init 56 = .ok (.putfield 40, 3) := by decide +kernel
theorem dX9_init_59 : decode cX9_init 59 = .ok (.aload_n 0, 1) := by decide +kernel
theorem dX9_init_60 : decode cX9_init 60 = .ok (.new 44, 3) := by decide +kernel
theorem dX9_init_63 : decode cX9_init 63 = .ok (.dup, 1) := by decide +kernel
theorem dX9_init_64 : decode cX9_init 64 = .ok (.invokespecial 46, 3) := by decide +kernel
theorem dX9_init_67 : decode cX9_init 67 = .ok (.putfield 47, 3) := by decide +kernel
theorem dX9_init_70 : decode cX9_init 70 = .ok (.aload_n 0, 1) := by decide +kernel
theorem dX9_init_71 : decode cX9_init 71 = .ok (.iconst 1, 1) := by decide +kernel
theorem dX9_init_72 : decode cX9_init 72 = .ok (.putfield 51, 3) := by decide +kernel
theorem dX9_init_75 : decode cX9_init 75 = .ok (.aload_n 0, 1) := by decide +kernel
theorem dX9_init_76 : decode cX9_init 76 = .ok (.iconst 1, 1) := by decide +kernel
theorem dX9_init_77 : decode cX9_init 77 = .ok (.putfield 55, 3) := by decide +kernel
theorem dX9_init_80 : decode cX9_init 80 = .ok (.aload_n 0, 1) := by decide +kernel
theorem dX9_init_81 : decode cX9_init 81 = .ok (.iconst 0, 1) := by decide +kernel
theorem dX9_init_82 : decode cX9_init 82 = .ok (.putfield 59, 3) := by decide +kernel
theorem dX9_init_85 : decode cX9_init 85 = .ok (.aload_n 0, 1) := by decide +kernel
theorem dX9_init_86 : decode cX9_init 86 = .ok (.iconst 0, 1) := by decide +kernel
theorem dX9_init_87 : decode cX9_init 87 = .ok (.putfield 62, 3) := by decide +kernel
theorem dX9_init_90 : decode cX9_init 90 = .ok (.aload_n 0, 1) := by decide +kernel
theorem dX9_init_91 : decode cX9_init 91 = .ok (.iconst 0, 1) := by decide +kernel
theorem dX9_init_92 : decode cX9_init 92 = .ok (.putfield 65, 3) := by decide +kernel
theorem dX9_init_95 : decode cX9_init 95 = .ok (.aload_n 0, 1) := by decide +kernel
theorem dX9_init_96 : decode cX9_init 96 = .ok (.iconst 0, 1) := by decide +kernel
theorem dX9_init_97 : decode cX9_init 97 = .ok (.putfield 68, 3) := by decide +kernel
theorem dX9_init_100 : decode cX9_init 100 = .ok (.aload_n 0, 1) := by decide +kernel
theorem dX9_init_101 : decode cX9_init 101 = .ok (.iconst 0, 1) := by decide +kernel
theorem dX9_init_102 : decode cX9_init 102 = .ok (.putfield 71, 3) := by decide +kernel
theorem dX9_init_105 : decode cX9_init 105 = .ok (.return_, 1) := by decide +kernel
set_option maxRecDepth 20000 in
theorem ggX9_letter_X5_write : GoodIn wsX9_letter wsX5_write := goodIn_r _ [9, 10, 11, 25, 26] (by decide +kernel) (by decide +kernel)
set_option maxRecDepth 20000 in
theorem gX9_letter_X5_write : GoodIn wsX9_letter (wsV RX9 75 RX5 yX5_write wsX5_write) := goodIn_app (goodIn_of _ (by decide +kernel)) ggX9_letter_X5_write
theorem dX9_letter_0 : decode cX9_letter 0 = .ok (.iload_n 1, 1) := by decide +kernel
theorem dX9_letter_1 : decode cX9_letter 1 = .ok (.bipush 32, 2) := by decide +kernel
theorem dX9_letter_3 : decode cX9_letter 3 = .ok (.if_icmp .lt 9, 3) := by decide +kernel
theorem dX9_letter_6 : decode cX9_letter 6 = .ok (.iload_n 1, 1) := by decide +kernel
theorem dX9_letter_7 : decode cX9_letter 7 = .ok (.bipush 126, 2) := by decide +kernel
theorem dX9_letter_9 : decode cX9_letter 9 = .ok (.if_icmp .le 6, 3) := by decide +kernel
theorem dX9_letter_12 : decode cX9_letter 12 = .ok (.ldc 74, 2) := by decide +kernel
theorem dX9_letter_14 : decode cX9_letter 14 = .ok (.ireturn, 1) := by decide +kernel
theorem dX9_letter_15 : decode cX9_letter 15 = .ok (.aload_n 0, 1) := by decide +kernel
theorem dX9_letter_16 : decode cX9_letter 16 = .ok (.getfield 40, 3) := by decide +kernel
theorem dX9_letter_19 : decode cX9_letter 19 = .ok (.iload_n 1, 1) := by decide +kernel
theorem dX9_letter_20 : decode cX9_letter 20 = .ok (.invokevirtual 75, 3) := by decide +kernel
theorem dX9_letter_23 : decode cX9_letter 23 = .ok (.ifCond .ne 6, 3) := by decide +kernel
theorem dX9_letter_26 : decode cX9_letter 26 = .ok (.ldc 79, 2) := by decide +kernel
theorem dX9_letter_28 : decode cX9_letter 28 = .ok (.ireturn, 1) := by decide +kernel
theorem dX9_letter_29 : decode cX9_letter 29 = .ok (.aload_n 0, 1) := by decide +kernel
theorem dX9_letter_30 : decode cX9_letter 30 = .ok (.getfield 40, 3) := by decide +kernel
theorem dX9_letter_33 : decode cX9_letter 33 = .ok (.getfield 80, 3) := by decide +kernel
theorem dX9_letter_36 : decode cX9_letter 36 = .ok (.ireturn, 1) := by decide +kernel
theorem dX9_blank_0 : decode cX9_blank 0 = .ok (.aload_n 0, 1) := by decide +kernel
theorem dX9_blank_1 : decode cX9_blank 1 = .ok (.getfield 40, 3) := by decide +kernel
theorem dX9_blank_4 : decode cX9_blank 4 = .ok (.getfield 80, 3) := by decide +kernel
theorem dX9_blank_7 : decode cX9_blank 7 = .ok (.istore_n 1, 1) := by decide +kernel
theorem dX9_blank_8 : decode cX9_blank 8 = .ok (.aload_n 0, 1) := by decide +kernel
theorem dX9_blank_9 : decode cX9_blank 9 = .ok (.getfield 40, 3) := by decide +kernel
theorem dX9_blank_12 : decode cX9_blank 12 = .ok (.iconst 0, 1) := by decide +kernel
theorem dX9_blank_13 : decode cX9_blank 13 = .ok (.putfield 80, 3) := by decide +kernel
theorem dX9_blank_16 : decode cX9_blank 16 = .ok (.iload_n 1, 1) := by decide +kernel
theorem dX9_blank_17 : decode cX9_blank 17 = .ok (.ireturn, 1) := by decide +kernel
set_option maxRecDepth 20000 in
theorem ggX9_fault_X6_begin : GoodIn wsX9_fault wsX6_begin := goodIn_r _ [8, 9, 10, 11, 12, 73, 74, 75, 76] (by decide +kernel) (by decide +kernel)
set_option maxRecDepth 20000 in
theorem gX9_fault_X6_begin : GoodIn wsX9_fault (wsV RX9 83 RX6 yX6_begin wsX6_begin) := goodIn_app (goodIn_of _ (by decide +kernel)) ggX9_fault_X6_begin
set_option maxRecDepth 20000 in
theorem ggX9_fault_X5_codeAt : GoodIn wsX9_fault wsX5_codeAt := goodIn_r _ [17, 18, 19, 71, 72] (by decide +kernel) (by decide +kernel)
set_option maxRecDepth 20000 in
theorem gX9_fault_X5_codeAt : GoodIn wsX9_fault (wsV RX9 86 RX5 yX5_codeAt wsX5_codeAt) := goodIn_app (goodIn_of _ (by decide +kernel)) ggX9_fault_X5_codeAt
set_option maxRecDepth 20000 in
theorem ggX9_fault_X6_takes : GoodIn wsX9_fault wsX6_takes := goodIn_r _ [23, 9, 24, 25, 26, 7, 27, 10, 11, 12, 28, 29, 30, 31, 32, 33, 34, 35, 36, 37, 38, 39, 40, 41, 42, 43, 44, 45, 46, 47, 48, 49, 50, 51, 52, 53, 54, 55, 56, 57, 73, 74, 75, 76] (by decide +kernel) (by decide +kernel)
set_option maxRecDepth 20000 in
theorem gX9_fault_X6_takes : GoodIn wsX9_fault (wsV RX9 90 RX6 yX6_takes wsX6_takes) := goodIn_app (goodIn_of _ (by decide +kernel)) ggX9_fault_X6_takes
theorem dX9_fault_0 : decode cX9_fault 0 = .ok (.aload_n 0, 1) := by decide +kernel
theorem dX9_fault_1 : decode cX9_fault 1 = .ok (.getfield 47, 3) := by decide +kernel
theorem dX9_fault_4 : decode cX9_fault 4 = .ok (.invokevirtual 83, 3) := by decide +kernel
theorem dX9_fault_7 : decode cX9_fault 7 = .ok (.iconst 0, 1) := by decide +kernel
theorem dX9_fault_8 : decode cX9_fault 8 = .ok (.istore_n 1, 1) := by decide +kernel
theorem dX9_fault_9 : decode cX9_fault 9 = .ok (.iload_n 1, 1) := by decide +kernel
theorem dX9_fault_10 : decode cX9_fault 10 = .ok (.aload_n 0, 1) := by decide +kernel
theorem dX9_fault_11 : decode cX9_fault 11 = .ok (.getfield 40, 3) := by decide +kernel
theorem dX9_fault_14 : decode cX9_fault 14 = .ok (.getfield 80, 3) := by decide +kernel
theorem dX9_fault_17 : decode cX9_fault 17 = .ok (.if_icmp .ge 29, 3) := by decide +kernel
theorem dX9_fault_20 : decode cX9_fault 20 = .ok (.aload_n 0, 1) := by decide +kernel
theorem dX9_fault_21 : decode cX9_fault 21 = .ok (.getfield 47, 3) := by decide +kernel
theorem dX9_fault_24 : decode cX9_fault 24 = .ok (.aload_n 0, 1) := by decide +kernel
theorem dX9_fault_25 : decode cX9_fault 25 = .ok (.getfield 40, 3) := by decide +kernel
theorem dX9_fault_28 : decode cX9_fault 28 = .ok (.iload_n 1, 1) := by decide +kernel
theorem dX9_fault_29 : decode cX9_fault 29 = .ok (.invokevirtual 86, 3) := by decide +kernel
theorem dX9_fault_32 : decode cX9_fault 32 = .ok (.invokevirtual 90, 3) := by decide +kernel
theorem dX9_fault_35 : decode cX9_fault 35 = .ok (.ifCond .ne 5, 3) := by decide +kernel
theorem dX9_fault_38 : decode cX9_fault 38 = .ok (.iload_n 1, 1) := by decide +kernel
theorem dX9_fault_39 : decode cX9_fault 39 = .ok (.ireturn, 1) := by decide +kernel
theorem dX9_fault_40 : decode cX9_fault 40 = .ok (.iinc 1 1, 3) := by decide +kernel
theorem dX9_fault_43 : decode cX9_fault 43 = .ok (.goto (-34), 3) := by decide +kernel
theorem dX9_fault_46 : decode cX9_fault 46 = .ok (.aload_n 0, 1) := by decide +kernel
theorem dX9_fault_47 : decode cX9_fault 47 = .ok (.getfield 40, 3) := by decide +kernel
theorem dX9_fault_50 : decode cX9_fault 50 = .ok (.getfield 80, 3) := by decide +kernel
theorem dX9_fault_53 : decode cX9_fault 53 = .ok (.ireturn, 1) := by decide +kernel
set_option maxRecDepth 20000 in
theorem ggX9_set_X9_fault : GoodIn wsX9_set wsX9_fault := goodIn_r _ [11, 3, 1, 2, 12, 13, 14, 15, 16, 17, 18, 19, 20, 21, 22, 23, 24, 25, 26, 27, 28, 29, 30, 31, 32, 33, 34, 35, 36, 37, 38, 39, 40, 41, 42, 43, 44, 45, 46, 47, 48, 49, 50, 51, 52, 53, 54, 55, 56, 57, 58, 59, 60, 61, 62, 63, 64, 65, 313, 314, 315, 316, 317, 318, 319, 320, 321, 322, 323, 324, 325, 326, 327, 328, 329, 330, 331] (by decide +kernel) (by decide +kernel)
set_option maxRecDepth 20000 in
theorem gX9_set_X9_fault : GoodIn wsX9_set (wsV RX9 93 RX9 yX9_fault wsX9_fault) := goodIn_app (goodIn_of _ (by decide +kernel)) ggX9_set_X9_fault
set_option maxRecDepth 20000 in
theorem ggX9_set_X6_mayEnd : GoodIn wsX9_set wsX6_mayEnd := goodIn_r _ [61, 17, 18, 62, 63, 64, 15, 65, 19, 20, 45, 46, 47, 48, 328, 329, 330, 331] (by decide +kernel) (by decide +kernel)
set_option maxRecDepth 20000 in
theorem gX9_set_X6_mayEnd : GoodIn wsX9_set (wsV RX9 97 RX6 yX6_mayEnd wsX6_mayEnd) := goodIn_app (goodIn_of _ (by decide +kernel)) ggX9_set_X6_mayEnd
set_option maxRecDepth 20000 in
theorem ggX9_set_X6_begin : GoodIn wsX9_set wsX6_begin := goodIn_r _ [16, 17, 18, 19, 20, 328, 329, 330, 331] (by decide +kernel) (by decide +kernel)
set_option maxRecDepth 20000 in
theorem gX9_set_X6_begin : GoodIn wsX9_set (wsV RX9 83 RX6 yX6_begin wsX6_begin) := goodIn_app (goodIn_of _ (by decide +kernel)) ggX9_set_X6_begin
set_option maxRecDepth 20000 in
theorem ggX9_set_X5_codeAt : GoodIn wsX9_set wsX5_codeAt := goodIn_r _ [25, 26, 27, 326, 327] (by decide +kernel) (by decide +kernel)
set_option maxRecDepth 20000 in
theorem gX9_set_X5_codeAt : GoodIn wsX9_set (wsV RX9 86 RX5 yX5_codeAt wsX5_codeAt) := goodIn_app (goodIn_of _ (by decide +kernel)) ggX9_set_X5_codeAt
set_option maxRecDepth 20000 in
theorem ggX9_set_X6_value : GoodIn wsX9_set wsX6_value := goodIn_r _ [65, 19, 20, 328, 329, 330, 331] (by decide +kernel) (by decide +kernel)
set_option maxRecDepth 20000 in
theorem gX9_set_X6_value : GoodIn wsX9_set (wsV RX9 105 RX6 yX6_value wsX6_value) := goodIn_app (goodIn_of _ (by decide +kernel)) ggX9_set_X6_value
set_option maxRecDepth 20000 in
theorem ggX9_set_X9_takeReadings : GoodIn wsX9_set wsX9_takeReadings := goodIn_r _ [71, 72, 73, 74, 10, 75, 76, 77, 78, 79, 80, 81, 82, 83, 84, 85, 86, 87, 88, 89, 90, 91, 92, 93, 94, 95, 96, 97, 98, 99, 100, 101, 102, 103, 104, 105, 106, 107, 108, 109, 110, 111, 112, 113, 114, 115, 116, 117, 118, 119, 120, 121, 122, 123, 124, 125, 126, 127, 128, 129, 130, 131, 132, 133, 134, 135, 136, 137, 138, 139, 140, 141, 142, 143, 144, 145, 146, 147, 148, 149, 150, 151, 152, 153, 154, 155, 156, 157, 158, 159, 160, 161, 162, 163, 164, 165, 166, 167, 168, 169, 170, 171, 172, 173, 174, 175, 176, 177, 178, 179, 180, 181, 182, 183, 184, 185, 186, 187, 188, 189, 190, 191, 192, 193, 194, 195, 196, 197, 198, 199, 200, 201, 202, 203, 204, 205, 206, 207, 208, 209, 210, 211, 212, 213, 214, 215, 216, 217, 218, 219, 220, 221, 222, 223, 224, 225, 226, 227, 228, 229, 230, 231, 232, 233, 234, 235, 236, 237, 238, 239, 240, 241, 242, 243, 244, 245, 246, 247, 248, 249, 250, 251, 252, 253, 254, 255, 256, 257, 258, 259, 260, 261, 262, 263, 264, 265, 266, 267, 268, 269, 270, 271, 272, 273, 274, 275, 276, 277, 278, 279, 280, 281, 282, 283, 284, 285, 286, 287, 288, 289, 290, 291, 292, 293, 294, 295, 296, 297, 298, 299, 300, 301, 313, 314, 315, 316, 317, 318, 319, 320, 321, 322, 323, 324, 325, 332, 333, 334, 335, 336, 337, 338, 339, 340, 341, 342, 343, 344, 345, 346, 347, 348, 349, 350, 351, 352, 353, 354, 355, 356, 357, 358, 359, 360, 361, 362, 363, 364, 365, 366, 367, 368] (by decide +kernel) (by decide +kernel)
set_option maxRecDepth 20000 in
theorem gX9_set_X9_takeReadings : GoodIn wsX9_set (wsV RX9 108 RX9 yX9_takeReadings wsX9_takeReadings) := goodIn_app (goodIn_of _ (by decide +kernel)) ggX9_set_X9_takeReadings
set_option maxRecDepth 20000 in
theorem ggX9_set_X9_adjust : GoodIn wsX9_set wsX9_adjust := goodIn_r _ [305, 76, 213, 83, 84, 90, 223, 81, 306, 307, 308, 309, 310, 311, 266, 312, 273, 283, 284, 285, 286, 268, 274, 279, 280, 281, 282, 313, 314, 315, 316, 317, 318, 319, 320, 321, 322, 323, 324, 325, 332, 333, 334, 335, 336, 337, 338, 350, 351, 352, 364, 365, 366, 367, 368, 353, 354, 355, 356, 357] (by decide +kernel) (by decide +kernel)
set_option maxRecDepth 20000 in
theorem gX9_set_X9_adjust : GoodIn wsX9_set (wsV RX9 111 RX9 yX9_adjust wsX9_adjust) := goodIn_app (goodIn_of _ (by decide +kernel)) ggX9_set_X9_adjust
set_option maxRecDepth 20000 in
theorem ggX9_set_X6_takes : GoodIn wsX9_set wsX6_takes := goodIn_r _ [31, 17, 32, 33, 34, 15, 35, 18, 19, 20, 36, 37, 38, 39, 40, 41, 42, 43, 44, 45, 46, 47, 48, 49, 50, 51, 52, 53, 54, 55, 56, 57, 58, 59, 60, 61, 62, 63, 64, 65, 328, 329, 330, 331] (by decide +kernel) (by decide +kernel)
set_option maxRecDepth 20000 in
theorem gX9_set_X6_takes : GoodIn wsX9_set (wsV RX9 90 RX6 yX6_takes wsX6_takes) := goodIn_app (goodIn_of _ (by decide +kernel)) ggX9_set_X6_takes
theorem dX9_set_0 : decode cX9_set 0 = .ok (.aload_n 0, 1) := by decide +kernel
theorem dX9_set_1 : decode cX9_set 1 = .ok (.invokevirtual 93, 3) := by decide +kernel
theorem dX9_set_4 : decode cX9_set 4 = .ok (.aload_n 0, 1) := by decide +kernel
theorem dX9_set_5 : decode cX9_set 5 = .ok (.getfield 40, 3) := by decide +kernel
theorem dX9_set_8 : decode cX9_set 8 = .ok (.getfield 80, 3) := by decide +kernel
theorem dX9_set_11 : decode cX9_set 11 = .ok (.if_icmp .ne 13, 3) := by decide +kernel
theorem dX9_set_14 : decode cX9_set 14 = .ok (.aload_n 0, 1) := by decide +kernel
theorem dX9_set_15 : decode cX9_set 15 = .ok (.getfield 47, 3) := by decide +kernel
theorem dX9_set_18 : decode cX9_set 18 = .ok (.invokevirtual 97, 3) := by decide +kernel
theorem dX9_set_21 : decode cX9_set 21 = .ok (.ifCond .ne 6, 3) := by decide +kernel
theorem dX9_set_24 : decode cX9_set 24 = .ok (.ldc 101, 2) := by decide +kernel
theorem dX9_set_26 : decode cX9_set 26 = .ok (.ireturn, 1) := by decide +kernel
theorem dX9_set_27 : decode cX9_set 27 = .ok (.iconst 0, 1) := by decide +kernel
theorem dX9_set_28 : decode cX9_set 28 = .ok (.istore_n 1, 1) := by decide +kernel
theorem dX9_set_29 : decode cX9_set 29 = .ok (.aload_n 0, 1) := by decide +kernel
theorem dX9_set_30 : decode cX9_set 30 = .ok (.getfield 47, 3) := by decide +kernel
theorem dX9_set_33 : decode cX9_set 33 = .ok (.invokevirtual 83, 3) := by decide +kernel
theorem dX9_set_36 : decode cX9_set 36 = .ok (.iconst 0, 1) := by decide +kernel
theorem dX9_set_37 : decode cX9_set 37 = .ok (.istore_n 2, 1) := by decide +kernel
theorem dX9_set_38 : decode cX9_set 38 = .ok (.iload_n 2, 1) := by decide +kernel
theorem dX9_set_39 : decode cX9_set 39 = .ok (.aload_n 0, 1) := by decide +kernel
theorem dX9_set_40 : decode cX9_set 40 = .ok (.getfield 40, 3) := by decide +kernel
theorem dX9_set_43 : decode cX9_set 43 = .ok (.getfield 80, 3) := by decide +kernel
theorem dX9_set_46 : decode cX9_set 46 = .ok (.if_icmp .gt 110, 3) := by decide +kernel
theorem dX9_set_49 : decode cX9_set 49 = .ok (.iload_n 2, 1) := by decide +kernel
theorem dX9_set_50 : decode cX9_set 50 = .ok (.aload_n 0, 1) := by decide +kernel
theorem dX9_set_51 : decode cX9_set 51 = .ok (.getfield 40, 3) := by decide +kernel
theorem dX9_set_54 : decode cX9_set 54 = .ok (.getfield 80, 3) := by decide +kernel
theorem dX9_set_57 : decode cX9_set 57 = .ok (.if_icmp .ge 14, 3) := by decide +kernel
theorem dX9_set_60 : decode cX9_set 60 = .ok (.aload_n 0, 1) := by decide +kernel
theorem dX9_set_61 : decode cX9_set 61 = .ok (.getfield 40, 3) := by decide +kernel
theorem dX9_set_64 : decode cX9_set 64 = .ok (.iload_n 2, 1) := by decide +kernel
theorem dX9_set_65 : decode cX9_set 65 = .ok (.invokevirtual 86, 3) := by decide +kernel
theorem dX9_set_68 : decode cX9_set 68 = .ok (.goto 5, 3) := by decide +kernel
theorem dX9_set_71 : decode cX9_set 71 = .ok (.bipush 59, 2) := by decide +kernel
theorem dX9_set_73 : decode cX9_set 73 = .ok (.istore_n 3, 1) := by decide +kernel
theorem dX9_set_74 : decode cX9_set 74 = .ok (.iload_n 3, 1) := by decide +kernel
theorem dX9_set_75 : decode cX9_set 75 = .ok (.bipush 59, 2) := by decide +kernel
theorem dX9_set_77 : decode cX9_set 77 = .ok (.if_icmp .ne 40, 3) := by decide +kernel
theorem dX9_set_80 : decode cX9_set 80 = .ok (.aload_n 0, 1) := by decide +kernel
theorem dX9_set_81 : decode cX9_set 81 = .ok (.getfield 47, 3) := by decide +kernel
theorem dX9_set_84 : decode cX9_set 84 = .ok (.getfield 102, 3) := by decide +kernel
theorem dX9_set_87 : decode cX9_set 87 = .ok (.bipush 71, 2) := by decide +kernel
theorem dX9_set_89 : decode cX9_set 89 = .ok (.if_icmp .ne 28, 3) := by decide +kernel
theorem dX9_set_92 : decode cX9_set 92 = .ok (.aload_n 0, 1) := by decide +kernel
theorem dX9_set_93 : decode cX9_set 93 = .ok (.aload_n 0, 1) := by decide +kernel
theorem dX9_set_94 : decode cX9_set 94 = .ok (.getfield 47, 3) := by decide +kernel
theorem dX9_set_97 : decode cX9_set 97 = .ok (.invokevirtual 105, 3) := by decide +kernel
theorem dX9_set_100 : decode cX9_set 100 = .ok (.invokevirtual 108, 3) := by decide +kernel
theorem dX9_set_103 : decode cX9_set 103 = .ok (.pop, 1) := by decide +kernel
theorem dX9_set_104 : decode cX9_set 104 = .ok (.iload_n 1, 1) := by decide +kernel
theorem dX9_set_105 : decode cX9_set 105 = .ok (.aload_n 0, 1) := by decide +kernel
theorem dX9_set_106 : decode cX9_set 106 = .ok (.getfield 47, 3) := by decide +kernel
theorem dX9_set_109 : decode cX9_set 109 = .ok (.invokevirtual 105, 3) := by decide +kernel
theorem dX9_set_112 : decode cX9_set 112 = .ok (.iadd, 1) := by decide +kernel
theorem dX9_set_113 : decode cX9_set 113 = .ok (.istore_n 1, 1) := by decide +kernel
theorem dX9_set_114 : decode cX9_set 114 = .ok (.goto 27, 3) := by decide +kernel
theorem dX9_set_117 : decode cX9_set 117 = .ok (.iload_n 3, 1) := by decide +kernel
theorem dX9_set_118 : decode cX9_set 118 = .ok (.bipush 59, 2) := by decide +kernel
theorem dX9_set_120 : decode cX9_set 120 = .ok (.if_icmp .ne 21, 3) := by decide +kernel
theorem dX9_set_123 : decode cX9_set 123 = .ok (.aload_n 0, 1) := by decide +kernel
theorem dX9_set_124 : decode cX9_set 124 = .ok (.aload_n 0, 1) := by decide +kernel
theorem dX9_set_125 : decode cX9_set 125 = .ok (.getfield 47, 3) := by decide +kernel
theorem dX9_set_128 : decode cX9_set 128 = .ok (.getfield 102, 3) := by decide +kernel
theorem dX9_set_131 : decode cX9_set 131 = .ok (.aload_n 0, 1) := by decide +kernel
theorem dX9_set_132 : decode cX9_set 132 = .ok (.getfield 47, 3) := by decide +kernel
theorem dX9_set_135 : decode cX9_set 135 = .ok (.invokevirtual 105, 3) := by decide +kernel
theorem dX9_set_138 : decode cX9_set 138 = .ok (.invokevirtual 111, 3) := by decide +kernel
theorem dX9_set_141 : decode cX9_set 141 = .ok (.aload_n 0, 1) := by decide +kernel
theorem dX9_set_142 : decode cX9_set 142 = .ok (.getfield 47, 3) := by decide +kernel
theorem dX9_set_145 : decode cX9_set 145 = .ok (.iload_n 3, 1) := by decide +kernel
theorem dX9_set_146 : decode cX9_set 146 = .ok (.invokevirtual 90, 3) := by decide +kernel
theorem dX9_set_149 : decode cX9_set 149 = .ok (.pop, 1) := by decide +kernel
theorem dX9_set_150 : decode cX9_set 150 = .ok (.iinc 2 1, 3) := by decide +kernel
theorem dX9_set_153 : decode cX9_set 153 = .ok (.goto (-115), 3) := by decide +kernel
theorem dX9_set_156 : decode cX9_set 156 = .ok (.aload_n 0, 1) := by decide +kernel
theorem dX9_set_157 : decode cX9_set 157 = .ok (.getfield 40, 3) := by decide +kernel
theorem dX9_set_160 : decode cX9_set 160 = .ok (.iconst 0, 1) := by decide +kernel
theorem dX9_set_161 : decode cX9_set 161 = .ok (.putfield 80, 3) := by decide +kernel
theorem dX9_set_164 : decode cX9_set 164 = .ok (.aload_n 0, 1) := by decide +kernel
theorem dX9_set_165 : decode cX9_set 165 = .ok (.dup, 1) := by decide +kernel
theorem dX9_set_166 : decode cX9_set 166 = .ok (.getfield 71, 3) := by decide +kernel
theorem dX9_set_169 : decode cX9_set 169 = .ok (.iconst 1, 1) := by decide +kernel
theorem dX9_set_170 : decode cX9_set 170 = .ok (.iadd, 1) := by decide +kernel
theorem dX9_set_171 : decode cX9_set 171 = .ok (.putfield 71, 3) := by decide +kernel
theorem dX9_set_174 : decode cX9_set 174 = .ok (.iload_n 1, 1) := by decide +kernel
theorem dX9_set_175 : decode cX9_set 175 = .ok (.ireturn, 1) := by decide +kernel
set_option maxRecDepth 20000 in
theorem ggX9_adjust_X4_resize : GoodIn wsX9_adjust wsX4_resize := goodIn_r _ [15, 16, 17, 18, 19, 14, 20, 21, 22, 23, 24, 25, 26, 50, 51, 52, 53, 54] (by decide +kernel) (by decide +kernel)
set_option maxRecDepth 20000 in
theorem gX9_adjust_X4_resize : GoodIn wsX9_adjust (wsV RX9 127 RX4 yX4_resize wsX4_resize) := goodIn_app (goodIn_of _ (by decide +kernel)) ggX9_adjust_X4_resize
theorem dX9_adjust_0 : decode cX9_adjust 0 = .ok (.iload_n 1, 1) := by decide +kernel
theorem dX9_adjust_1 : decode cX9_adjust 1 = .ok (.lookupswitch 149 #[(65, 97), (68, 135), (70, 113), (78, 67), (82, 78), (87, 124), (90, 105)], 67) := by decide +kernel
theorem dX9_adjust_68 : decode cX9_adjust 68 = .ok (.aload_n 0, 1) := by decide +kernel
theorem dX9_adjust_69 : decode cX9_adjust 69 = .ok (.getfield 10, 3) := by decide +kernel
theorem dX9_adjust_72 : decode cX9_adjust 72 = .ok (.iload_n 2, 1) := by decide +kernel
theorem dX9_adjust_73 : decode cX9_adjust 73 = .ok (.putfield 115, 3) := by decide +kernel
theorem dX9_adjust_76 : decode cX9_adjust 76 = .ok (.goto 74, 3) := by decide +kernel
theorem dX9_adjust_79 : decode cX9_adjust 79 = .ok (.aload_n 0, 1) := by decide +kernel
theorem dX9_adjust_80 : decode cX9_adjust 80 = .ok (.getfield 10, 3) := by decide +kernel
theorem dX9_adjust_83 : decode cX9_adjust 83 = .ok (.getfield 118, 3) := by decide +kernel
theorem dX9_adjust_86 : decode cX9_adjust 86 = .ok (.iload_n 2, 1) := by decide +kernel
theorem dX9_adjust_87 : decode cX9_adjust 87 = .ok (.putfield 122, 3) := by decide +kernel
theorem dX9_adjust_90 : decode cX9_adjust 90 = .ok (.aload_n 0, 1) := by decide +kernel
theorem dX9_adjust_91 : decode cX9_adjust 91 = .ok (.iconst 0, 1) := by decide +kernel
theorem dX9_adjust_92 : decode cX9_adjust 92 = .ok (.putfield 51, 3) := by decide +kernel
theorem dX9_adjust_95 : decode cX9_adjust 95 = .ok (.goto 55, 3) := by decide +kernel
theorem dX9_adjust_98 : decode cX9_adjust 98 = .ok (.aload_n 0, 1) := by decide +kernel
theorem dX9_adjust_99 : decode cX9_adjust 99 = .ok (.iconst 1, 1) := by decide +kernel
theorem dX9_adjust_100 : decode cX9_adjust 100 = .ok (.putfield 51, 3) := by decide +kernel
theorem dX9_adjust_103 : decode cX9_adjust 103 = .ok (.goto 47, 3) := by decide +kernel
theorem dX9_adjust_106 : decode cX9_adjust 106 = .ok (.aload_n 0, 1) := by decide +kernel
theorem dX9_adjust_107 : decode cX9_adjust 107 = .ok (.iload_n 2, 1) := by decide +kernel
theorem dX9_adjust_108 : decode cX9_adjust 108 = .ok (.putfield 55, 3) := by decide +kernel
theorem dX9_adjust_111 : decode cX9_adjust 111 = .ok (.goto 39, 3) := by decide +kernel
theorem dX9_adjust_114 : decode cX9_adjust 114 = .ok (.aload_n 0, 1) := by decide +kernel
theorem dX9_adjust_115 : decode cX9_adjust 115 = .ok (.getfield 26, 3) := by decide +kernel
theorem dX9_adjust_118 : decode cX9_adjust 118 = .ok (.iload_n 2, 1) := by decide +kernel
theorem dX9_adjust_119 : decode cX9_adjust 119 = .ok (.invokevirtual 127, 3) := by decide +kernel
theorem dX9_adjust_122 : decode cX9_adjust 122 = .ok (.goto 28, 3) := by decide +kernel
theorem dX9_adjust_125 : decode cX9_adjust 125 = .ok (.aload_n 0, 1) := by decide +kernel
theorem dX9_adjust_126 : decode cX9_adjust 126 = .ok (.getfield 26, 3) := by decide +kernel
theorem dX9_adjust_129 : decode cX9_adjust 129 = .ok (.iload_n 2, 1) := by decide +kernel
theorem dX9_adjust_130 : decode cX9_adjust 130 = .ok (.putfield 131, 3) := by decide +kernel
theorem dX9_adjust_133 : decode cX9_adjust 133 = .ok (.goto 17, 3) := by decide +kernel
theorem dX9_adjust_136 : decode cX9_adjust 136 = .ok (.aload_n 0, 1) := by decide +kernel
theorem dX9_adjust_137 : decode cX9_adjust 137 = .ok (.getfield 10, 3) := by decide +kernel
theorem dX9_adjust_140 : decode cX9_adjust 140 = .ok (.getfield 134, 3) := by decide +kernel
theorem dX9_adjust_143 : decode cX9_adjust 143 = .ok (.iload_n 2, 1) := by decide +kernel
theorem dX9_adjust_144 : decode cX9_adjust 144 = .ok (.putfield 138, 3) := by decide +kernel
theorem dX9_adjust_147 : decode cX9_adjust 147 = .ok (.goto 3, 3) := by decide +kernel
theorem dX9_adjust_150 : decode cX9_adjust 150 = .ok (.return_, 1) := by decide +kernel
set_option maxRecDepth 20000 in
theorem ggX9_dc_X9_within : GoodIn wsX9_dc wsX9_within := goodIn_r _ [9] (by decide +kernel) (by decide +kernel)
set_option maxRecDepth 20000 in
theorem gX9_dc_X9_within : GoodIn wsX9_dc (va_wsS RX9 145 yX9_within wsX9_within) := goodIn_app (goodIn_of _ (by decide +kernel)) ggX9_dc_X9_within
theorem dX9_dc_0 : decode cX9_dc 0 = .ok (.iload_n 1, 1) := by decide +kernel
theorem dX9_dc_1 : decode cX9_dc 1 = .ok (.i2l, 1) := by decide +kernel
theorem dX9_dc_2 : decode cX9_dc 2 = .ok (.ldc2_w 143, 3) := by decide +kernel
theorem dX9_dc_5 : decode cX9_dc 5 = .ok (.invokestatic 145, 3) := by decide +kernel
theorem dX9_dc_8 : decode cX9_dc 8 = .ok (.ifCond .ne 6, 3) := by decide +kernel
theorem dX9_dc_11 : decode cX9_dc 11 = .ok (.ldc 74, 2) := by decide +kernel
theorem dX9_dc_13 : decode cX9_dc 13 = .ok (.ireturn, 1) := by decide +kernel
theorem dX9_dc_14 : decode cX9_dc 14 = .ok (.aload_n 0, 1) := by decide +kernel
theorem dX9_dc_15 : decode cX9_dc 15 = .ok (.getfield 10, 3) := by decide +kernel
theorem dX9_dc_18 : decode cX9_dc 18 = .ok (.getfield 134, 3) := by decide +kernel
theorem dX9_dc_21 : decode cX9_dc 21 = .ok (.getfield 138, 3) := by decide +kernel
theorem dX9_dc_24 : decode cX9_dc 24 = .ok (.istore_n 2, 1) := by decide +kernel
theorem dX9_dc_25 : decode cX9_dc 25 = .ok (.aload_n 0, 1) := by decide +kernel
theorem dX9_dc_26 : decode cX9_dc 26 = .ok (.getfield 10, 3) := by decide +kernel
theorem dX9_dc_29 : decode cX9_dc 29 = .ok (.getfield 134, 3) := by decide +kernel
theorem dX9_dc_32 : decode cX9_dc 32 = .ok (.iload_n 1, 1) := by decide +kernel
theorem dX9_dc_33 : decode cX9_dc 33 = .ok (.putfield 138, 3) := by decide +kernel
theorem dX9_dc_36 : decode cX9_dc 36 = .ok (.iload_n 2, 1) := by decide +kernel
theorem dX9_dc_37 : decode cX9_dc 37 = .ok (.ireturn, 1) := by decide +kernel
theorem dX9_hum_0 : decode cX9_hum 0 = .ok (.iload_n 1, 1) := by decide +kernel
theorem dX9_hum_1 : decode cX9_hum 1 = .ok (.ifCond .lt 18, 3) := by decide +kernel
theorem dX9_hum_4 : decode cX9_hum 4 = .ok (.iload_n 1, 1) := by decide +kernel
theorem dX9_hum_5 : decode cX9_hum 5 = .ok (.ldc 149, 2) := by decide +kernel
theorem dX9_hum_7 : decode cX9_hum 7 = .ok (.if_icmp .gt 12, 3) := by decide +kernel
theorem dX9_hum_10 : decode cX9_hum 10 = .ok (.iload_n 2, 1) := by decide +kernel
theorem dX9_hum_11 : decode cX9_hum 11 = .ok (.ifCond .lt 8, 3) := by decide +kernel
theorem dX9_hum_14 : decode cX9_hum 14 = .ok (.iload_n 2, 1) := by decide +kernel
theorem dX9_hum_15 : decode cX9_hum 15 = .ok (.iconst 3, 1) := by decide +kernel
theorem dX9_hum_16 : decode cX9_hum 16 = .ok (.if_icmp .lt 6, 3) := by decide +kernel
theorem dX9_hum_19 : decode cX9_hum 19 = .ok (.ldc 74, 2) := by decide +kernel
theorem dX9_hum_21 : decode cX9_hum 21 = .ok (.ireturn, 1) := by decide +kernel
theorem dX9_hum_22 : decode cX9_hum 22 = .ok (.aload_n 0, 1) := by decide +kernel
theorem dX9_hum_23 : decode cX9_hum 23 = .ok (.getfield 10, 3) := by decide +kernel
theorem dX9_hum_26 : decode cX9_hum 26 = .ok (.getfield 134, 3) := by decide +kernel
theorem dX9_hum_29 : decode cX9_hum 29 = .ok (.getfield 150, 3) := by decide +kernel
theorem dX9_hum_32 : decode cX9_hum 32 = .ok (.istore_n 3, 1) := by decide +kernel
theorem dX9_hum_33 : decode cX9_hum 33 = .ok (.aload_n 0, 1) := by decide +kernel
theorem dX9_hum_34 : decode cX9_hum 34 = .ok (.getfield 10, 3) := by decide +kernel
theorem dX9_hum_37 : decode cX9_hum 37 = .ok (.getfield 134, 3) := by decide +kernel
theorem dX9_hum_40 : decode cX9_hum 40 = .ok (.iload_n 1, 1) := by decide +kernel
theorem dX9_hum_41 : decode cX9_hum 41 = .ok (.putfield 150, 3) := by decide +kernel
theorem dX9_hum_44 : decode cX9_hum 44 = .ok (.aload_n 0, 1) := by decide +kernel
theorem dX9_hum_45 : decode cX9_hum 45 = .ok (.getfield 10, 3) := by decide +kernel
theorem dX9_hum_48 : decode cX9_hum 48 = .ok (.getfield 134, 3) := by decide +kernel
theorem dX9_hum_51 : decode cX9_hum 51 = .ok (.iload_n 2, 1) := by decide +kernel
theorem dX9_hum_52 : decode cX9_hum 52 = .ok (.putfield 153, 3) := by decide +kernel
theorem dX9_hum_55 : decode cX9_hum 55 = .ok (.iload_n 3, 1) := by decide +kernel
theorem dX9_hum_56 : decode cX9_hum 56 = .ok (.ireturn, 1) := by decide +kernel
theorem dX9_noise_0 : decode cX9_noise 0 = .ok (.iload_n 1, 1) := by decide +kernel
theorem dX9_noise_1 : decode cX9_noise 1 = .ok (.ifCond .lt 10, 3) := by decide +kernel
theorem dX9_noise_4 : decode cX9_noise 4 = .ok (.iload_n 1, 1) := by decide +kernel
theorem dX9_noise_5 : decode cX9_noise 5 = .ok (.sipush 10000, 3) := by decide +kernel
theorem dX9_noise_8 : decode cX9_noise 8 = .ok (.if_icmp .le 6, 3) := by decide +kernel
theorem dX9_noise_11 : decode cX9_noise 11 = .ok (.ldc 74, 2) := by decide +kernel
theorem dX9_noise_13 : decode cX9_noise 13 = .ok (.ireturn, 1) := by decide +kernel
theorem dX9_noise_14 : decode cX9_noise 14 = .ok (.aload_n 0, 1) := by decide +kernel
theorem dX9_noise_15 : decode cX9_noise 15 = .ok (.getfield 10, 3) := by decide +kernel
theorem dX9_noise_18 : decode cX9_noise 18 = .ok (.getfield 134, 3) := by decide +kernel
theorem dX9_noise_21 : decode cX9_noise 21 = .ok (.getfield 156, 3) := by decide +kernel
theorem dX9_noise_24 : decode cX9_noise 24 = .ok (.istore_n 2, 1) := by decide +kernel
theorem dX9_noise_25 : decode cX9_noise 25 = .ok (.aload_n 0, 1) := by decide +kernel
theorem dX9_noise_26 : decode cX9_noise 26 = .ok (.getfield 10, 3) := by decide +kernel
theorem dX9_noise_29 : decode cX9_noise 29 = .ok (.getfield 134, 3) := by decide +kernel
theorem dX9_noise_32 : decode cX9_noise 32 = .ok (.iload_n 1, 1) := by decide +kernel
theorem dX9_noise_33 : decode cX9_noise 33 = .ok (.putfield 156, 3) := by decide +kernel
theorem dX9_noise_36 : decode cX9_noise 36 = .ok (.iload_n 2, 1) := by decide +kernel
theorem dX9_noise_37 : decode cX9_noise 37 = .ok (.ireturn, 1) := by decide +kernel
theorem dX9_seed_0 : decode cX9_seed 0 = .ok (.iload_n 1, 1) := by decide +kernel
theorem dX9_seed_1 : decode cX9_seed 1 = .ok (.ifCond .ge 6, 3) := by decide +kernel
theorem dX9_seed_4 : decode cX9_seed 4 = .ok (.ldc 74, 2) := by decide +kernel
theorem dX9_seed_6 : decode cX9_seed 6 = .ok (.ireturn, 1) := by decide +kernel
theorem dX9_seed_7 : decode cX9_seed 7 = .ok (.aload_n 0, 1) := by decide +kernel
theorem dX9_seed_8 : decode cX9_seed 8 = .ok (.getfield 10, 3) := by decide +kernel
theorem dX9_seed_11 : decode cX9_seed 11 = .ok (.getfield 134, 3) := by decide +kernel
theorem dX9_seed_14 : decode cX9_seed 14 = .ok (.getfield 159, 3) := by decide +kernel
theorem dX9_seed_17 : decode cX9_seed 17 = .ok (.l2i, 1) := by decide +kernel
theorem dX9_seed_18 : decode cX9_seed 18 = .ok (.istore_n 2, 1) := by decide +kernel
theorem dX9_seed_19 : decode cX9_seed 19 = .ok (.aload_n 0, 1) := by decide +kernel
theorem dX9_seed_20 : decode cX9_seed 20 = .ok (.getfield 10, 3) := by decide +kernel
theorem dX9_seed_23 : decode cX9_seed 23 = .ok (.getfield 134, 3) := by decide +kernel
theorem dX9_seed_26 : decode cX9_seed 26 = .ok (.iload_n 1, 1) := by decide +kernel
theorem dX9_seed_27 : decode cX9_seed 27 = .ok (.i2l, 1) := by decide +kernel
theorem dX9_seed_28 : decode cX9_seed 28 = .ok (.putfield 159, 3) := by decide +kernel
theorem dX9_seed_31 : decode cX9_seed 31 = .ok (.iload_n 2, 1) := by decide +kernel
theorem dX9_seed_32 : decode cX9_seed 32 = .ok (.ireturn, 1) := by decide +kernel
set_option maxRecDepth 20000 in
theorem ggX9_amplifier_X9_within : GoodIn wsX9_amplifier wsX9_within := goodIn_r _ [11] (by decide +kernel) (by decide +kernel)
set_option maxRecDepth 20000 in
theorem gX9_amplifier_X9_within : GoodIn wsX9_amplifier (va_wsS RX9 145 yX9_within wsX9_within) := goodIn_app (goodIn_of _ (by decide +kernel)) ggX9_amplifier_X9_within
theorem dX9_amplifier_0 : decode cX9_amplifier 0 = .ok (.iload_n 1, 1) := by decide +kernel
theorem dX9_amplifier_1 : decode cX9_amplifier 1 = .ok (.i2l, 1) := by decide +kernel
theorem dX9_amplifier_2 : decode cX9_amplifier 2 = .ok (.ldc2_w 163, 3) := by decide +kernel
theorem dX9_amplifier_5 : decode cX9_amplifier 5 = .ok (.invokestatic 145, 3) := by decide +kernel
theorem dX9_amplifier_8 : decode cX9_amplifier 8 = .ok (.ifCond .eq 14, 3) := by decide +kernel
theorem dX9_amplifier_11 : decode cX9_amplifier 11 = .ok (.iload_n 2, 1) := by decide +kernel
theorem dX9_amplifier_12 : decode cX9_amplifier 12 = .ok (.i2l, 1) := by decide +kernel
theorem dX9_amplifier_13 : decode cX9_amplifier 13 = .ok (.ldc2_w 165, 3) := by decide +kernel
theorem dX9_amplifier_16 : decode cX9_amplifier 16 = .ok (.invokestatic 145, 3) := by decide +kernel
theorem dX9_amplifier_19 : decode cX9_amplifier 19 = .ok (.ifCond .ne 6, 3) := by decide +kernel
theorem dX9_amplifier_22 : decode cX9_amplifier 22 = .ok (.ldc 74, 2) := by decide +kernel
theorem dX9_amplifier_24 : decode cX9_amplifier 24 = .ok (.ireturn, 1) := by decide +kernel
theorem dX9_amplifier_25 : decode cX9_amplifier 25 = .ok (.aload_n 0, 1) := by decide +kernel
theorem dX9_amplifier_26 : decode cX9_amplifier 26 = .ok (.getfield 10, 3) := by decide +kernel
theorem dX9_amplifier_29 : decode cX9_amplifier 29 = .ok (.getfield 118, 3) := by decide +kernel
theorem dX9_amplifier_32 : decode cX9_amplifier 32 = .ok (.getfield 167, 3) := by decide +kernel
theorem dX9_amplifier_35 : decode cX9_amplifier 35 = .ok (.istore_n 3, 1) := by decide +kernel
theorem dX9_amplifier_36 : decode cX9_amplifier 36 = .ok (.aload_n 0, 1) := by decide +kernel
theorem dX9_amplifier_37 : decode cX9_amplifier 37 = .ok (.getfield 10, 3) := by decide +kernel
theorem dX9_amplifier_40 : decode cX9_amplifier 40 = .ok (.getfield 118, 3) := by decide +kernel
theorem dX9_amplifier_43 : decode cX9_amplifier 43 = .ok (.iload_n 1, 1) := by decide +kernel
theorem dX9_amplifier_44 : decode cX9_amplifier 44 = .ok (.putfield 167, 3) := by decide +kernel
theorem dX9_amplifier_47 : decode cX9_amplifier 47 = .ok (.aload_n 0, 1) := by decide +kernel
theorem dX9_amplifier_48 : decode cX9_amplifier 48 = .ok (.getfield 10, 3) := by decide +kernel
theorem dX9_amplifier_51 : decode cX9_amplifier 51 = .ok (.getfield 118, 3) := by decide +kernel
theorem dX9_amplifier_54 : decode cX9_amplifier 54 = .ok (.iload_n 2, 1) := by decide +kernel
theorem dX9_amplifier_55 : decode cX9_amplifier 55 = .ok (.putfield 170, 3) := by decide +kernel
theorem dX9_amplifier_58 : decode cX9_amplifier 58 = .ok (.iload_n 3, 1) := by decide +kernel
theorem dX9_amplifier_59 : decode cX9_amplifier 59 = .ok (.ireturn, 1) := by decide +kernel
set_option maxRecDepth 20000 in
theorem ggX9_correct_X9_within : GoodIn wsX9_correct wsX9_within := goodIn_r _ [9] (by decide +kernel) (by decide +kernel)
set_option maxRecDepth 20000 in
theorem gX9_correct_X9_within : GoodIn wsX9_correct (va_wsS RX9 145 yX9_within wsX9_within) := goodIn_app (goodIn_of _ (by decide +kernel)) ggX9_correct_X9_within
theorem dX9_correct_0 : decode cX9_correct 0 = .ok (.iload_n 1, 1) := by decide +kernel
theorem dX9_correct_1 : decode cX9_correct 1 = .ok (.i2l, 1) := by decide +kernel
theorem dX9_correct_2 : decode cX9_correct 2 = .ok (.ldc2_w 173, 3) := by decide +kernel
theorem dX9_correct_5 : decode cX9_correct 5 = .ok (.invokestatic 145, 3) := by decide +kernel
theorem dX9_correct_8 : decode cX9_correct 8 = .ok (.ifCond .eq 14, 3) := by decide +kernel
theorem dX9_correct_11 : decode cX9_correct 11 = .ok (.iload_n 2, 1) := by decide +kernel
theorem dX9_correct_12 : decode cX9_correct 12 = .ok (.i2l, 1) := by decide +kernel
theorem dX9_correct_13 : decode cX9_correct 13 = .ok (.ldc2_w 175, 3) := by decide +kernel
theorem dX9_correct_16 : decode cX9_correct 16 = .ok (.invokestatic 145, 3) := by decide +kernel
theorem dX9_correct_19 : decode cX9_correct 19 = .ok (.ifCond .ne 6, 3) := by decide +kernel
theorem dX9_correct_22 : decode cX9_correct 22 = .ok (.ldc 74, 2) := by decide +kernel
theorem dX9_correct_24 : decode cX9_correct 24 = .ok (.ireturn, 1) := by decide +kernel
theorem dX9_correct_25 : decode cX9_correct 25 = .ok (.aload_n 0, 1) := by decide +kernel
theorem dX9_correct_26 : decode cX9_correct 26 = .ok (.getfield 59, 3) := by decide +kernel
theorem dX9_correct_29 : decode cX9_correct 29 = .ok (.istore_n 3, 1) := by decide +kernel
theorem dX9_correct_30 : decode cX9_correct 30 = .ok (.aload_n 0, 1) := by decide +kernel
theorem dX9_correct_31 : decode cX9_correct 31 = .ok (.iload_n 1, 1) := by decide +kernel
theorem dX9_correct_32 : decode cX9_correct 32 = .ok (.putfield 59, 3) := by decide +kernel
theorem dX9_correct_35 : decode cX9_correct 35 = .ok (.aload_n 0, 1) := by decide +kernel
theorem dX9_correct_36 : decode cX9_correct 36 = .ok (.iload_n 2, 1) := by decide +kernel
theorem dX9_correct_37 : decode cX9_correct 37 = .ok (.putfield 62, 3) := by decide +kernel
theorem dX9_correct_40 : decode cX9_correct 40 = .ok (.iload_n 3, 1) := by decide +kernel
theorem dX9_correct_41 : decode cX9_correct 41 = .ok (.ireturn, 1) := by decide +kernel
set_option maxRecDepth 20000 in
theorem ggX9_go_X9_takeReadings : GoodIn wsX9_go wsX9_takeReadings := goodIn_r _ [6, 7, 8, 9, 5, 10, 11, 12, 13, 14, 15, 16, 17, 18, 19, 20, 21, 22, 23, 24, 25, 26, 27, 28, 29, 30, 31, 32, 33, 34, 35, 36, 37, 38, 39, 40, 41, 42, 43, 44, 45, 46, 47, 48, 49, 50, 51, 52, 53, 54, 55, 56, 57, 58, 59, 60, 61, 62, 63, 64, 65, 66, 67, 68, 69, 70, 71, 72, 73, 74, 75, 76, 77, 78, 79, 80, 81, 82, 83, 84, 85, 86, 87, 88, 89, 90, 91, 92, 93, 94, 95, 96, 97, 98, 99, 100, 101, 102, 103, 104, 105, 106, 107, 108, 109, 110, 111, 112, 113, 114, 115, 116, 117, 118, 119, 120, 121, 122, 123, 124, 125, 126, 127, 128, 129, 130, 131, 132, 133, 134, 135, 136, 137, 138, 139, 140, 141, 142, 143, 144, 145, 146, 147, 148, 149, 150, 151, 152, 153, 154, 155, 156, 157, 158, 159, 160, 161, 162, 163, 164, 165, 166, 167, 168, 169, 170, 171, 172, 173, 174, 175, 176, 177, 178, 179, 180, 181, 182, 183, 184, 185, 186, 187, 188, 189, 190, 191, 192, 193, 194, 195, 196, 197, 198, 199, 200, 201, 202, 203, 204, 205, 206, 207, 208, 209, 210, 211, 212, 213, 214, 215, 216, 217, 218, 219, 220, 221, 222, 223, 224, 225, 226, 227, 228, 229, 230, 231, 232, 233, 234, 235, 236, 237, 238, 239, 240, 241, 242, 243, 244, 245, 246, 247, 248, 249, 250, 251, 252, 253, 254, 255, 256, 257, 258, 259, 260, 261, 262, 263, 264, 265, 266, 267, 268, 269, 270, 271, 272, 273, 274, 275, 276, 277, 278, 279, 280, 281, 282, 283, 284, 285, 286] (by decide +kernel) (by decide +kernel)
set_option maxRecDepth 20000 in
theorem gX9_go_X9_takeReadings : GoodIn wsX9_go (wsV RX9 108 RX9 yX9_takeReadings wsX9_takeReadings) := goodIn_app (goodIn_of _ (by decide +kernel)) ggX9_go_X9_takeReadings
theorem dX9_go_0 : decode cX9_go 0 = .ok (.iload_n 1, 1) := by decide +kernel
theorem dX9_go_1 : decode cX9_go 1 = .ok (.iconst 1, 1) := by decide +kernel
theorem dX9_go_2 : decode cX9_go 2 = .ok (.if_icmp .lt 9, 3) := by decide +kernel
theorem dX9_go_5 : decode cX9_go 5 = .ok (.iload_n 1, 1) := by decide +kernel
theorem dX9_go_6 : decode cX9_go 6 = .ok (.bipush 8, 2) := by decide +kernel
theorem dX9_go_8 : decode cX9_go 8 = .ok (.if_icmp .le 6, 3) := by decide +kernel
theorem dX9_go_11 : decode cX9_go 11 = .ok (.ldc 74, 2) := by decide +kernel
theorem dX9_go_13 : decode cX9_go 13 = .ok (.ireturn, 1) := by decide +kernel
theorem dX9_go_14 : decode cX9_go 14 = .ok (.aload_n 0, 1) := by decide +kernel
theorem dX9_go_15 : decode cX9_go 15 = .ok (.iload_n 1, 1) := by decide +kernel
theorem dX9_go_16 : decode cX9_go 16 = .ok (.invokevirtual 108, 3) := by decide +kernel
theorem dX9_go_19 : decode cX9_go 19 = .ok (.ireturn, 1) := by decide +kernel
set_option maxRecDepth 20000 in
theorem ggX9_convert_X1_converse : GoodIn wsX9_convert wsX1_converse := goodIn_r _ [9, 10, 11, 12, 13, 14, 15, 16, 17, 18, 19, 20, 21, 22, 23, 24, 25, 26, 27, 28, 29, 30, 31, 32, 33, 34, 35, 36, 37, 38, 39, 40, 41, 42, 43, 44, 45, 46, 47, 48, 49, 50, 51, 52, 53, 54, 55, 56, 57, 58, 59, 60, 61, 62, 63, 64, 65, 66, 67, 68, 69, 70, 71, 72, 73, 74, 75, 76, 77, 78, 79, 80, 8, 81, 82, 83, 84, 85, 86, 87, 88, 89, 90, 91, 92, 93, 94, 95, 96, 97, 98, 99, 100, 101, 102, 103, 104, 105, 106, 107, 108, 109, 110, 111, 112, 113, 114, 115, 116, 117, 118, 136, 137, 138, 139, 140, 141, 142, 154, 155, 156, 143, 144, 145, 146, 147, 148, 149, 150, 151, 152, 153, 157, 158, 159, 160, 161] (by decide +kernel) (by decide +kernel)
set_option maxRecDepth 20000 in
theorem gX9_convert_X1_converse : GoodIn wsX9_convert (wsV RX9 177 RX1 yX1_converse wsX1_converse) := goodIn_app (goodIn_of _ (by decide +kernel)) ggX9_convert_X1_converse
set_option maxRecDepth 20000 in
theorem ggX9_convert_X9_flag : GoodIn wsX9_convert wsX9_flag := goodIn_r _ [122] (by decide +kernel) (by decide +kernel)
set_option maxRecDepth 20000 in
theorem gX9_convert_X9_flag : GoodIn wsX9_convert (va_wsS RX9 190 yX9_flag wsX9_flag) := goodIn_app (goodIn_of _ (by decide +kernel)) ggX9_convert_X9_flag
theorem dX9_convert_0 : decode cX9_convert 0 = .ok (.iload_n 1, 1) := by decide +kernel
theorem dX9_convert_1 : decode cX9_convert 1 = .ok (.ifCond .eq 11, 3) := by decide +kernel
theorem dX9_convert_4 : decode cX9_convert 4 = .ok (.iload_n 1, 1) := by decide +kernel
theorem dX9_convert_5 : decode cX9_convert 5 = .ok (.iconst 1, 1) := by decide +kernel
theorem dX9_convert_6 : decode cX9_convert 6 = .ok (.if_icmp .eq 6, 3) := by decide +kernel
theorem dX9_convert_9 : decode cX9_convert 9 = .ok (.ldc 74, 2) := by decide +kernel
theorem dX9_convert_11 : decode cX9_convert 11 = .ok (.ireturn, 1) := by decide +kernel
theorem dX9_convert_12 : decode cX9_convert 12 = .ok (.aload_n 0, 1) := by decide +kernel
theorem dX9_convert_13 : decode cX9_convert 13 = .ok (.getfield 10, 3) := by decide +kernel
theorem dX9_convert_16 : decode cX9_convert 16 = .ok (.iload_n 1, 1) := by decide +kernel
theorem dX9_convert_17 : decode cX9_convert 17 = .ok (.iconst 1, 1) := by decide +kernel
theorem dX9_convert_18 : decode cX9_convert 18 = .ok (.if_icmp .ne 7, 3) := by decide +kernel
theorem dX9_convert_21 : decode cX9_convert 21 = .ok (.iconst 1, 1) := by decide +kernel
theorem dX9_convert_22 : decode cX9_convert 22 = .ok (.goto 4, 3) := by decide +kernel
theorem dX9_convert_25 : decode cX9_convert 25 = .ok (.iconst 0, 1) := by decide +kernel
theorem dX9_convert_26 : decode cX9_convert 26 = .ok (.invokevirtual 177, 3) := by decide +kernel
theorem dX9_convert_29 : decode cX9_convert 29 = .ok (.aload_n 0, 1) := by decide +kernel
theorem dX9_convert_30 : decode cX9_convert 30 = .ok (.getfield 10, 3) := by decide +kernel
theorem dX9_convert_33 : decode cX9_convert 33 = .ok (.getfield 181, 3) := by decide +kernel
theorem dX9_convert_36 : decode cX9_convert 36 = .ok (.getfield 185, 3) := by decide +kernel
theorem dX9_convert_39 : decode cX9_convert 39 = .ok (.invokestatic 190, 3) := by decide +kernel
theorem dX9_convert_42 : decode cX9_convert 42 = .ok (.ireturn, 1) := by decide +kernel
set_option maxRecDepth 20000 in
theorem ggX9_sweep_X9_within : GoodIn wsX9_sweep wsX9_within := goodIn_r _ [14] (by decide +kernel) (by decide +kernel)
set_option maxRecDepth 20000 in
theorem gX9_sweep_X9_within : GoodIn wsX9_sweep (va_wsS RX9 145 yX9_within wsX9_within) := goodIn_app (goodIn_of _ (by decide +kernel)) ggX9_sweep_X9_within
set_option maxRecDepth 20000 in
theorem ggX9_sweep_X1_converse : GoodIn wsX9_sweep wsX1_converse := goodIn_r _ [19, 20, 21, 22, 23, 24, 25, 26, 27, 28, 29, 30, 31, 32, 33, 34, 35, 36, 37, 38, 39, 40, 41, 42, 43, 44, 45, 46, 47, 48, 49, 50, 51, 52, 53, 54, 55, 56, 57, 58, 59, 60, 61, 62, 63, 64, 65, 66, 67, 68, 69, 70, 71, 72, 73, 74, 75, 76, 77, 78, 79, 80, 81, 82, 83, 84, 85, 86, 87, 88, 89, 90, 18, 91, 92, 93, 94, 95, 96, 97, 98, 99, 9, 100, 101, 8, 10, 102, 103, 104, 105, 106, 107, 108, 109, 110, 111, 112, 113, 114, 115, 116, 117, 118, 119, 120, 121, 122, 123, 124, 125, 143, 144, 145, 146, 147, 148, 149, 155, 156, 157, 158, 159, 160, 161, 162, 163, 164, 165, 166, 167, 168, 150, 151, 152, 153, 154] (by decide +kernel) (by decide +kernel)
set_option maxRecDepth 20000 in
theorem gX9_sweep_X1_converse : GoodIn wsX9_sweep (wsV RX9 177 RX1 yX1_converse wsX1_converse) := goodIn_app (goodIn_of _ (by decide +kernel)) ggX9_sweep_X1_converse
set_option maxRecDepth 20000 in
theorem ggX9_sweep_X2_error : GoodIn wsX9_sweep wsX2_error := goodIn_r _ [129, 41, 42, 112, 113, 9, 114, 158, 159, 160, 161, 162, 163, 164, 165, 166, 167, 168] (by decide +kernel) (by decide +kernel)
set_option maxRecDepth 20000 in
theorem gX9_sweep_X2_error : GoodIn wsX9_sweep (wsV RX9 194 RX2 yX2_error wsX2_error) := goodIn_app (goodIn_of _ (by decide +kernel)) ggX9_sweep_X2_error
theorem dX9_sweep_0 : decode cX9_sweep 0 = .ok (.iload_n 1, 1) := by decide +kernel
theorem dX9_sweep_1 : decode cX9_sweep 1 = .ok (.i2l, 1) := by decide +kernel
theorem dX9_sweep_2 : decode cX9_sweep 2 = .ok (.ldc2_w 143, 3) := by decide +kernel
theorem dX9_sweep_5 : decode cX9_sweep 5 = .ok (.invokestatic 145, 3) := by decide +kernel
theorem dX9_sweep_8 : decode cX9_sweep 8 = .ok (.ifCond .eq 14, 3) := by decide +kernel
theorem dX9_sweep_11 : decode cX9_sweep 11 = .ok (.iload_n 3, 1) := by decide +kernel
theorem dX9_sweep_12 : decode cX9_sweep 12 = .ok (.iconst 1, 1) := by decide +kernel
theorem dX9_sweep_13 : decode cX9_sweep 13 = .ok (.if_icmp .lt 9, 3) := by decide +kernel
theorem dX9_sweep_16 : decode cX9_sweep 16 = .ok (.iload_n 3, 1) := by decide +kernel
theorem dX9_sweep_17 : decode cX9_sweep 17 = .ok (.bipush 8, 2) := by decide +kernel
theorem dX9_sweep_19 : decode cX9_sweep 19 = .ok (.if_icmp .le 6, 3) := by decide +kernel
theorem dX9_sweep_22 : decode cX9_sweep 22 = .ok (.ldc 74, 2) := by decide +kernel
theorem dX9_sweep_24 : decode cX9_sweep 24 = .ok (.ireturn, 1) := by decide +kernel
theorem dX9_sweep_25 : decode cX9_sweep 25 = .ok (.iload_n 1, 1) := by decide +kernel
theorem dX9_sweep_26 : decode cX9_sweep 26 = .ok (.i2l, 1) := by decide +kernel
theorem dX9_sweep_27 : decode cX9_sweep 27 = .ok (.iload_n 2, 1) := by decide +kernel
theorem dX9_sweep_28 : decode cX9_sweep 28 = .ok (.i2l, 1) := by decide +kernel
theorem dX9_sweep_29 : decode cX9_sweep 29 = .ok (.iload_n 3, 1) := by decide +kernel
theorem dX9_sweep_30 : decode cX9_sweep 30 = .ok (.iconst 1, 1) := by decide +kernel
theorem dX9_sweep_31 : decode cX9_sweep 31 = .ok (.isub, 1) := by decide +kernel
theorem dX9_sweep_32 : decode cX9_sweep 32 = .ok (.i2l, 1) := by decide +kernel
theorem dX9_sweep_33 : decode cX9_sweep 33 = .ok (.lmul, 1) := by decide +kernel
theorem dX9_sweep_34 : decode cX9_sweep 34 = .ok (.ladd, 1) := by decide +kernel
theorem dX9_sweep_35 : decode cX9_sweep 35 = .ok (.lstore 4, 2) := by decide +kernel
theorem dX9_sweep_37 : decode cX9_sweep 37 = .ok (.lload 4, 2) := by decide +kernel
theorem dX9_sweep_39 : decode cX9_sweep 39 = .ok (.ldc2_w 143, 3) := by decide +kernel
theorem dX9_sweep_42 : decode cX9_sweep 42 = .ok (.invokestatic 145, 3) := by decide +kernel
theorem dX9_sweep_45 : decode cX9_sweep 45 = .ok (.ifCond .ne 6, 3) := by decide +kernel
theorem dX9_sweep_48 : decode cX9_sweep 48 = .ok (.ldc 74, 2) := by decide +kernel
theorem dX9_sweep_50 : decode cX9_sweep 50 = .ok (.ireturn, 1) := by decide +kernel
theorem dX9_sweep_51 : decode cX9_sweep 51 = .ok (.aload_n 0, 1) := by decide +kernel
theorem dX9_sweep_52 : decode cX9_sweep 52 = .ok (.getfield 10, 3) := by decide +kernel
theorem dX9_sweep_55 : decode cX9_sweep 55 = .ok (.getfield 134, 3) := by decide +kernel
theorem dX9_sweep_58 : decode cX9_sweep 58 = .ok (.getfield 138, 3) := by decide +kernel
theorem dX9_sweep_61 : decode cX9_sweep 61 = .ok (.istore 6, 2) := by decide +kernel
theorem dX9_sweep_63 : decode cX9_sweep 63 = .ok (.lconst 0, 1) := by decide +kernel
theorem dX9_sweep_64 : decode cX9_sweep 64 = .ok (.lstore 7, 2) := by decide +kernel
theorem dX9_sweep_66 : decode cX9_sweep 66 = .ok (.iconst 0, 1) := by decide +kernel
theorem dX9_sweep_67 : decode cX9_sweep 67 = .ok (.istore 9, 2) := by decide +kernel
theorem dX9_sweep_69 : decode cX9_sweep 69 = .ok (.iload 9, 2) := by decide +kernel
theorem dX9_sweep_71 : decode cX9_sweep 71 = .ok (.iload_n 3, 1) := by decide +kernel
theorem dX9_sweep_72 : decode cX9_sweep 72 = .ok (.if_icmp .ge 54, 3) := by decide +kernel
theorem dX9_sweep_75 : decode cX9_sweep 75 = .ok (.aload_n 0, 1) := by decide +kernel
theorem dX9_sweep_76 : decode cX9_sweep 76 = .ok (.getfield 10, 3) := by decide +kernel
theorem dX9_sweep_79 : decode cX9_sweep 79 = .ok (.getfield 134, 3) := by decide +kernel
theorem dX9_sweep_82 : decode cX9_sweep 82 = .ok (.iload_n 1, 1) := by decide +kernel
theorem dX9_sweep_83 : decode cX9_sweep 83 = .ok (.i2l, 1) := by decide +kernel
theorem dX9_sweep_84 : decode cX9_sweep 84 = .ok (.iload_n 2, 1) := by decide +kernel
theorem dX9_sweep_85 : decode cX9_sweep 85 = .ok (.i2l, 1) := by decide +kernel
theorem dX9_sweep_86 : decode cX9_sweep 86 = .ok (.iload 9, 2) := by decide +kernel
theorem dX9_sweep_88 : decode cX9_sweep 88 = .ok (.i2l, 1) := by decide +kernel
theorem dX9_sweep_89 : decode cX9_sweep 89 = .ok (.lmul, 1) := by decide +kernel
theorem dX9_sweep_90 : decode cX9_sweep 90 = .ok (.ladd, 1) := by decide +kernel
theorem dX9_sweep_91 : decode cX9_sweep 91 = .ok (.l2i, 1) := by decide +kernel
theorem dX9_sweep_92 : decode cX9_sweep 92 = .ok (.putfield 138, 3) := by decide +kernel
theorem dX9_sweep_95 : decode cX9_sweep 95 = .ok (.aload_n 0, 1) := by decide +kernel
theorem dX9_sweep_96 : decode cX9_sweep 96 = .ok (.getfield 10, 3) := by decide +kernel
theorem dX9_sweep_99 : decode cX9_sweep 99 = .ok (.iconst 0, 1) := by decide +kernel
theorem dX9_sweep_100 : decode cX9_sweep 100 = .ok (.invokevirtual 177, 3) := by decide +kernel
theorem dX9_sweep_103 : decode cX9_sweep 103 = .ok (.lload 7, 2) := by decide +kernel
theorem dX9_sweep_105 : decode cX9_sweep 105 = .ok (.aload_n 0, 1) := by decide +kernel
theorem dX9_sweep_106 : decode cX9_sweep 106 = .ok (.getfield 10, 3) := by decide +kernel
theorem dX9_sweep_109 : decode cX9_sweep 109 = .ok (.getfield 181, 3) := by decide +kernel
theorem dX9_sweep_112 : decode cX9_sweep 112 = .ok (.invokevirtual 194, 3) := by decide +kernel
theorem dX9_sweep_115 : decode cX9_sweep 115 = .ok (.invokestatic 198, 3) := by decide +kernel
theorem dX9_sweep_118 : decode cX9_sweep 118 = .ok (.lstore 7, 2) := by decide +kernel
theorem dX9_sweep_120 : decode cX9_sweep 120 = .ok (.iinc 9 1, 3) := by decide +kernel
theorem dX9_sweep_123 : decode cX9_sweep 123 = .ok (.goto (-54), 3) := by decide +kernel
theorem dX9_sweep_126 : decode cX9_sweep 126 = .ok (.aload_n 0, 1) := by decide +kernel
theorem dX9_sweep_127 : decode cX9_sweep 127 = .ok (.getfield 10, 3) := by decide +kernel
theorem dX9_sweep_130 : decode cX9_sweep 130 = .ok (.getfield 134, 3) := by decide +kernel
theorem dX9_sweep_133 : decode cX9_sweep 133 = .ok (.iload 6, 2) := by decide +kernel
theorem dX9_sweep_135 : decode cX9_sweep 135 = .ok (.putfield 138, 3) := by decide +kernel
theorem dX9_sweep_138 : decode cX9_sweep 138 = .ok (.lload 7, 2) := by decide +kernel
theorem dX9_sweep_140 : decode cX9_sweep 140 = .ok (.l2i, 1) := by decide +kernel
theorem dX9_sweep_141 : decode cX9_sweep 141 = .ok (.ireturn, 1) := by decide +kernel
set_option maxRecDepth 20000 in
theorem ggX9_clear_X8_forget : GoodIn wsX9_clear wsX8_forget := goodIn_r _ [8, 9, 28, 29, 30] (by decide +kernel) (by decide +kernel)
set_option maxRecDepth 20000 in
theorem gX9_clear_X8_forget : GoodIn wsX9_clear (wsV RX9 207 RX8 yX8_forget wsX8_forget) := goodIn_app (goodIn_of _ (by decide +kernel)) ggX9_clear_X8_forget
theorem dX9_clear_0 : decode cX9_clear 0 = .ok (.aload_n 0, 1) := by decide +kernel
theorem dX9_clear_1 : decode cX9_clear 1 = .ok (.getfield 26, 3) := by decide +kernel
theorem dX9_clear_4 : decode cX9_clear 4 = .ok (.getfield 204, 3) := by decide +kernel
theorem dX9_clear_7 : decode cX9_clear 7 = .ok (.istore_n 1, 1) := by decide +kernel
theorem dX9_clear_8 : decode cX9_clear 8 = .ok (.aload_n 0, 1) := by decide +kernel
theorem dX9_clear_9 : decode cX9_clear 9 = .ok (.getfield 26, 3) := by decide +kernel
theorem dX9_clear_12 : decode cX9_clear 12 = .ok (.iconst 0, 1) := by decide +kernel
theorem dX9_clear_13 : decode cX9_clear 13 = .ok (.putfield 204, 3) := by decide +kernel
theorem dX9_clear_16 : decode cX9_clear 16 = .ok (.aload_n 0, 1) := by decide +kernel
theorem dX9_clear_17 : decode cX9_clear 17 = .ok (.getfield 19, 3) := by decide +kernel
theorem dX9_clear_20 : decode cX9_clear 20 = .ok (.invokevirtual 207, 3) := by decide +kernel
theorem dX9_clear_23 : decode cX9_clear 23 = .ok (.iload_n 1, 1) := by decide +kernel
theorem dX9_clear_24 : decode cX9_clear 24 = .ok (.ireturn, 1) := by decide +kernel
set_option maxRecDepth 20000 in
theorem ggX9_takeReadings_X9_takeReading : GoodIn wsX9_takeReadings wsX9_takeReading := goodIn_r _ [5, 6, 7, 8, 9, 10, 11, 12, 13, 14, 15, 16, 17, 18, 4, 19, 20, 21, 22, 23, 24, 25, 26, 27, 28, 29, 30, 31, 32, 33, 34, 35, 36, 37, 38, 39, 40, 41, 42, 43, 44, 45, 46, 47, 48, 49, 50, 51, 52, 53, 54, 55, 56, 57, 58, 59, 60, 61, 62, 63, 64, 65, 66, 67, 68, 69, 70, 71, 72, 73, 74, 75, 76, 77, 78, 79, 80, 81, 82, 83, 84, 85, 86, 87, 88, 89, 90, 91, 92, 93, 94, 95, 96, 97, 98, 99, 100, 101, 102, 103, 104, 105, 106, 107, 108, 109, 110, 111, 112, 113, 114, 115, 116, 117, 118, 119, 120, 121, 122, 123, 124, 125, 126, 127, 128, 129, 130, 131, 132, 133, 134, 135, 136, 137, 138, 139, 140, 141, 142, 143, 144, 145, 146, 147, 148, 149, 150, 151, 152, 153, 154, 155, 156, 157, 158, 159, 160, 161, 162, 163, 164, 165, 166, 167, 168, 169, 170, 171, 172, 173, 174, 175, 176, 177, 178, 179, 180, 181, 182, 183, 184, 185, 186, 187, 188, 189, 190, 191, 192, 193, 194, 195, 196, 197, 198, 199, 200, 201, 202, 203, 204, 205, 206, 207, 208, 209, 210, 211, 212, 213, 214, 215, 216, 217, 218, 219, 220, 221, 222, 223, 224, 225, 226, 227, 228, 229, 230, 231, 232, 233, 234, 235, 236, 237, 238, 239, 240, 241, 242, 243, 244, 245, 246, 247, 248, 249, 250, 251, 252, 253, 254, 255, 256, 257, 258, 259, 260, 261, 262, 263, 264, 265, 266, 267, 268, 269, 270, 271, 272, 273, 274, 275, 276, 277, 278, 279, 280, 281] (by decide +kernel) (by decide +kernel)
set_option maxRecDepth 20000 in
theorem gX9_takeReadings_X9_takeReading : GoodIn wsX9_takeReadings (wsV RX9 210 RX9 yX9_takeReading wsX9_takeReading) := goodIn_app (goodIn_of _ (by decide +kernel)) ggX9_takeReadings_X9_takeReading
theorem dX9_takeReadings_0 : decode cX9_takeReadings 0 = .ok (.iconst 0, 1) := by decide +kernel
theorem dX9_takeReadings_1 : decode cX9_takeReadings 1 = .ok (.istore_n 2, 1) := by decide +kernel
theorem dX9_takeReadings_2 : decode cX9_takeReadings 2 = .ok (.iconst 0, 1) := by decide +kernel
theorem dX9_takeReadings_3 : decode cX9_takeReadings 3 = .ok (.istore_n 3, 1) := by decide +kernel
theorem dX9_takeReadings_4 : decode cX9_takeReadings 4 = .ok (.iload_n 3, 1) := by decide +kernel
theorem dX9_takeReadings_5 : decode cX9_takeReadings 5 = .ok (.iload_n 1, 1) := by decide +kernel
theorem dX9_takeReadings_6 : decode cX9_takeReadings 6 = .ok (.if_icmp .ge 19, 3) := by decide +kernel
theorem dX9_takeReadings_9 : decode cX9_takeReadings 9 = .ok (.aload_n 0, 1) := by decide +kernel
theorem dX9_takeReadings_10 : decode cX9_takeReadings 10 = .ok (.invokevirtual 210, 3) := by decide +kernel
theorem dX9_takeReadings_13 : decode cX9_takeReadings 13 = .ok (.ifCond .eq 6, 3) := by decide +kernel
theorem dX9_takeReadings_16 : decode cX9_takeReadings 16 = .ok (.iinc 2 1, 3) := by decide +kernel
theorem dX9_takeReadings_19 : decode cX9_takeReadings 19 = .ok (.iinc 3 1, 3) := by decide +kernel
theorem dX9_takeReadings_22 : decode cX9_takeReadings 22 = .ok (.goto (-18), 3) := by decide +kernel
theorem dX9_takeReadings_25 : decode cX9_takeReadings 25 = .ok (.iload_n 2, 1) := by decide +kernel
theorem dX9_takeReadings_26 : decode cX9_takeReadings 26 = .ok (.ireturn, 1) := by decide +kernel
set_option maxRecDepth 20000 in
theorem ggX9_takeReading_X9_findRange : GoodIn wsX9_takeReading wsX9_findRange := goodIn_r _ [15, 1, 16, 8, 9, 17, 18, 19, 20, 21, 22, 23, 24, 25, 26, 27, 28, 29, 30, 31, 32, 33, 34, 35, 36, 37, 38, 39, 40, 41, 42, 43, 44, 45, 46, 47, 48, 49, 50, 51, 52, 53, 54, 55, 56, 57, 58, 59, 60, 61, 62, 63, 64, 65, 66, 67, 68, 69, 70, 71, 72, 73, 74, 75, 76, 77, 78, 79, 80, 81, 82, 83, 84, 85, 86, 87, 88, 89, 90, 91, 92, 93, 94, 95, 96, 97, 98, 99, 100, 101, 102, 103, 104, 105, 106, 107, 108, 109, 110, 111, 112, 113, 114, 115, 116, 117, 118, 119, 120, 121, 122, 123, 124, 125, 126, 127, 128, 129, 130, 131, 132, 133, 134, 135, 14, 136, 3, 5, 137, 4, 138, 139, 140, 141, 142, 143, 144, 228, 229, 230, 231, 232, 233, 234, 235, 236, 237, 238, 239, 240, 241, 242, 243, 244, 245, 246, 247, 259, 260, 261, 248, 249, 250, 251, 252, 253, 254, 255, 256, 257, 258, 262, 263, 264, 265, 266] (by decide +kernel) (by decide +kernel)
set_option maxRecDepth 20000 in
theorem gX9_takeReading_X9_findRange : GoodIn wsX9_takeReading (wsV RX9 216 RX9 yX9_findRange wsX9_findRange) := goodIn_app (goodIn_of _ (by decide +kernel)) ggX9_takeReading_X9_findRange
set_option maxRecDepth 20000 in
theorem ggX9_takeReading_X9_findZero : GoodIn wsX9_takeReading wsX9_findZero := goodIn_r _ [148, 149, 1, 8, 9, 7, 150, 151, 139, 3, 5, 152, 153, 154, 155, 156, 157, 158, 159, 160, 161, 162, 163, 164, 165, 166, 167, 168, 169, 170, 19, 20, 21, 22, 23, 24, 25, 26, 27, 28, 29, 30, 31, 32, 33, 34, 35, 36, 37, 38, 39, 40, 41, 42, 43, 44, 45, 46, 47, 48, 49, 50, 51, 52, 53, 54, 55, 56, 57, 58, 59, 60, 61, 62, 63, 64, 65, 66, 67, 68, 69, 70, 71, 72, 73, 74, 75, 76, 77, 78, 79, 80, 81, 82, 83, 84, 85, 86, 87, 88, 89, 90, 91, 92, 93, 94, 95, 96, 97, 98, 99, 100, 101, 102, 103, 104, 105, 106, 107, 108, 109, 110, 111, 112, 113, 114, 115, 116, 117, 118, 119, 120, 121, 122, 123, 124, 125, 126, 127, 128, 129, 130, 131, 132, 171, 172, 173, 174, 228, 229, 230, 231, 232, 233, 234, 235, 236, 237, 238, 239, 240, 241, 242, 243, 244, 245, 246, 247, 259, 260, 261, 267, 268, 269, 248, 249, 250, 251, 252, 253, 254, 255, 256, 257, 258, 270, 271, 272, 262, 263, 264, 265, 266] (by decide +kernel) (by decide +kernel)
set_option maxRecDepth 20000 in
theorem gX9_takeReading_X9_findZero : GoodIn wsX9_takeReading (wsV RX9 222 RX9 yX9_findZero wsX9_findZero) := goodIn_app (goodIn_of _ (by decide +kernel)) ggX9_takeReading_X9_findZero
set_option maxRecDepth 20000 in
theorem ggX9_takeReading_X9_plain : GoodIn wsX9_takeReading wsX9_plain := goodIn_r _ [178, 1, 139, 8, 179, 180, 87, 88, 83, 89, 90, 91, 92, 228, 229, 230, 231, 232, 233, 234, 235, 236, 237, 238, 239, 240, 241, 242, 243, 244, 245, 246, 247, 259, 260, 261] (by decide +kernel) (by decide +kernel)
set_option maxRecDepth 20000 in
theorem gX9_takeReading_X9_plain : GoodIn wsX9_takeReading (wsV RX9 225 RX9 yX9_plain wsX9_plain) := goodIn_app (goodIn_of _ (by decide +kernel)) ggX9_takeReading_X9_plain
set_option maxRecDepth 20000 in
theorem ggX9_takeReading_X9_corrected : GoodIn wsX9_takeReading wsX9_corrected := goodIn_r _ [184, 185, 186, 187, 188, 228, 229, 230, 231, 232, 233, 234, 235, 236, 237, 238, 239, 240] (by decide +kernel) (by decide +kernel)
set_option maxRecDepth 20000 in
theorem gX9_takeReading_X9_corrected : GoodIn wsX9_takeReading (wsV RX9 229 RX9 yX9_corrected wsX9_corrected) := goodIn_app (goodIn_of _ (by decide +kernel)) ggX9_takeReading_X9_corrected
set_option maxRecDepth 20000 in
theorem ggX9_takeReading_X4_takeIn : GoodIn wsX9_takeReading wsX4_takeIn := goodIn_r _ [193, 194, 195, 196, 120, 104, 121, 197, 198, 199, 200, 201, 202, 203, 192, 204, 205, 206, 207, 208, 209, 210, 211, 212, 273, 274, 275, 276, 277] (by decide +kernel) (by decide +kernel)
set_option maxRecDepth 20000 in
theorem gX9_takeReading_X4_takeIn : GoodIn wsX9_takeReading (wsV RX9 232 RX4 yX4_takeIn wsX4_takeIn) := goodIn_app (goodIn_of _ (by decide +kernel)) ggX9_takeReading_X4_takeIn
set_option maxRecDepth 20000 in
theorem ggX9_takeReading_X3_note : GoodIn wsX9_takeReading wsX3_note := goodIn_r _ [217, 218, 219, 220, 221, 222, 223, 216, 224, 225, 226, 14, 227, 267, 268, 269] (by decide +kernel) (by decide +kernel)
set_option maxRecDepth 20000 in
theorem gX9_takeReading_X3_note : GoodIn wsX9_takeReading (wsV RX9 239 RX3 yX3_note wsX3_note) := goodIn_app (goodIn_of _ (by decide +kernel)) ggX9_takeReading_X3_note
theorem dX9_takeReading_0 : decode cX9_takeReading 0 = .ok (.aload_n 0, 1) := by decide +kernel
theorem dX9_takeReading_1 : decode cX9_takeReading 1 = .ok (.getfield 10, 3) := by decide +kernel
theorem dX9_takeReading_4 : decode cX9_takeReading 4 = .ok (.getfield 213, 3) := by decide +kernel
theorem dX9_takeReading_7 : decode cX9_takeReading 7 = .ok (.istore_n 1, 1) := by decide +kernel
theorem dX9_takeReading_8 : decode cX9_takeReading 8 = .ok (.aload_n 0, 1) := by decide +kernel
theorem dX9_takeReading_9 : decode cX9_takeReading 9 = .ok (.invokevirtual 216, 3) := by decide +kernel
theorem dX9_takeReading_12 : decode cX9_takeReading 12 = .ok (.aload_n 0, 1) := by decide +kernel
theorem dX9_takeReading_13 : decode cX9_takeReading 13 = .ok (.getfield 10, 3) := by decide +kernel
theorem dX9_takeReading_16 : decode cX9_takeReading 16 = .ok (.getfield 181, 3) := by decide +kernel
theorem dX9_takeReading_19 : decode cX9_takeReading 19 = .ok (.getfield 185, 3) := by decide +kernel
theorem dX9_takeReading_22 : decode cX9_takeReading 22 = .ok (.istore_n 2, 1) := by decide +kernel
theorem dX9_takeReading_23 : decode cX9_takeReading 23 = .ok (.aload_n 0, 1) := by decide +kernel
theorem dX9_takeReading_24 : decode cX9_takeReading 24 = .ok (.getfield 10, 3) := by decide +kernel
theorem dX9_takeReading_27 : decode cX9_takeReading 27 = .ok (.getfield 181, 3) := by decide +kernel
theorem dX9_takeReading_30 : decode cX9_takeReading 30 = .ok (.getfield 219, 3) := by decide +kernel
theorem dX9_takeReading_33 : decode cX9_takeReading 33 = .ok (.lstore_n 3, 1) := by decide +kernel
theorem dX9_takeReading_34 : decode cX9_takeReading 34 = .ok (.aload_n 0, 1) := by decide +kernel
theorem dX9_takeReading_35 : decode cX9_takeReading 35 = .ok (.invokevirtual 222, 3) := by decide +kernel
theorem dX9_takeReading_38 : decode cX9_takeReading 38 = .ok (.lstore 5, 2) := by decide +kernel
theorem dX9_takeReading_40 : decode cX9_takeReading 40 = .ok (.aload_n 0, 1) := by decide +kernel
theorem dX9_takeReading_41 : decode cX9_takeReading 41 = .ok (.aload_n 0, 1) := by decide +kernel
theorem dX9_takeReading_42 : decode cX9_takeReading 42 = .ok (.lload_n 3, 1) := by decide +kernel
theorem dX9_takeReading_43 : decode cX9_takeReading 43 = .ok (.lload 5, 2) := by decide +kernel
theorem dX9_takeReading_45 : decode cX9_takeReading 45 = .ok (.lsub, 1) := by decide +kernel
theorem dX9_takeReading_46 : decode cX9_takeReading 46 = .ok (.invokevirtual 225, 3) := by decide +kernel
theorem dX9_takeReading_49 : decode cX9_takeReading 49 = .ok (.invokevirtual 229, 3) := by decide +kernel
theorem dX9_takeReading_52 : decode cX9_takeReading 52 = .ok (.lstore 7, 2) := by decide +kernel
theorem dX9_takeReading_54 : decode cX9_takeReading 54 = .ok (.iload_n 2, 1) := by decide +kernel
theorem dX9_takeReading_55 : decode cX9_takeReading 55 = .ok (.ifCond .ne 19, 3) := by decide +kernel
theorem dX9_takeReading_58 : decode cX9_takeReading 58 = .ok (.aload_n 0, 1) := by decide +kernel
theorem dX9_takeReading_59 : decode cX9_takeReading 59 = .ok (.getfield 26, 3) := by decide +kernel
theorem dX9_takeReading_62 : decode cX9_takeReading 62 = .ok (.lload 7, 2) := by decide +kernel
theorem dX9_takeReading_64 : decode cX9_takeReading 64 = .ok (.invokevirtual 232, 3) := by decide +kernel
theorem dX9_takeReading_67 : decode cX9_takeReading 67 = .ok (.ifCond .eq 7, 3) := by decide +kernel
theorem dX9_takeReading_70 : decode cX9_takeReading 70 = .ok (.iconst 1, 1) := by decide +kernel
theorem dX9_takeReading_71 : decode cX9_takeReading 71 = .ok (.goto 4, 3) := by decide +kernel
theorem dX9_takeReading_74 : decode cX9_takeReading 74 = .ok (.iconst 0, 1) := by decide +kernel
theorem dX9_takeReading_75 : decode cX9_takeReading 75 = .ok (.istore 9, 2) := by decide +kernel
theorem dX9_takeReading_77 : decode cX9_takeReading 77 = .ok (.aload_n 0, 1) := by decide +kernel
theorem dX9_takeReading_78 : decode cX9_takeReading 78 = .ok (.getfield 33, 3) := by decide +kernel
theorem dX9_takeReading_81 : decode cX9_takeReading 81 = .ok (.lload 7, 2) := by decide +kernel
theorem dX9_takeReading_83 : decode cX9_takeReading 83 = .ok (.aload_n 0, 1) := by decide +kernel
theorem dX9_takeReading_84 : decode cX9_takeReading 84 = .ok (.getfield 10, 3) := by decide +kernel
theorem dX9_takeReading_87 : decode cX9_takeReading 87 = .ok (.getfield 118, 3) := by decide +kernel
theorem dX9_takeReading_90 : decode cX9_takeReading 90 = .ok (.getfield 122, 3) := by decide +kernel
theorem dX9_takeReading_93 : decode cX9_takeReading 93 = .ok (.iload_n 2, 1) := by decide +kernel
theorem dX9_takeReading_94 : decode cX9_takeReading 94 = .ok (.aload_n 0, 1) := by decide +kernel
theorem dX9_takeReading_95 : decode cX9_takeReading 95 = .ok (.getfield 10, 3) := by decide +kernel
theorem dX9_takeReading_98 : decode cX9_takeReading 98 = .ok (.getfield 213, 3) := by decide +kernel
theorem dX9_takeReading_101 : decode cX9_takeReading 101 = .ok (.iload_n 1, 1) := by decide +kernel
theorem dX9_takeReading_102 : decode cX9_takeReading 102 = .ok (.isub, 1) := by decide +kernel
theorem dX9_takeReading_103 : decode cX9_takeReading 103 = .ok (.iload 9, 2) := by decide +kernel
theorem dX9_takeReading_105 : decode cX9_takeReading 105 = .ok (.aload_n 0, 1) := by decide +kernel
theorem dX9_takeReading_106 : decode cX9_takeReading 106 = .ok (.getfield 10, 3) := by decide +kernel
theorem dX9_takeReading_109 : decode cX9_takeReading 109 = .ok (.getfield 236, 3) := by decide +kernel
theorem dX9_takeReading_112 : decode cX9_takeReading 112 = .ok (.l2i, 1) := by decide +kernel
theorem dX9_takeReading_113 : decode cX9_takeReading 113 = .ok (.invokevirtual 239, 3) := by decide +kernel
theorem dX9_takeReading_116 : decode cX9_takeReading 116 = .ok (.iload_n 2, 1) := by decide +kernel
theorem dX9_takeReading_117 : decode cX9_takeReading 117 = .ok (.ireturn, 1) := by decide +kernel
set_option maxRecDepth 20000 in
theorem ggX9_findRange_X1_converse : GoodIn wsX9_findRange wsX1_converse := goodIn_r _ [11, 12, 13, 14, 15, 16, 17, 18, 19, 20, 21, 22, 23, 24, 25, 26, 27, 28, 29, 30, 31, 32, 33, 34, 35, 36, 37, 38, 39, 40, 41, 42, 43, 44, 45, 46, 47, 48, 49, 50, 51, 52, 53, 54, 55, 56, 57, 58, 59, 60, 61, 62, 63, 64, 65, 66, 67, 68, 69, 70, 71, 72, 73, 74, 75, 76, 77, 78, 79, 80, 81, 82, 10, 83, 84, 85, 86, 87, 88, 89, 90, 91, 92, 93, 94, 95, 96, 97, 98, 99, 100, 101, 102, 103, 104, 105, 106, 107, 108, 109, 110, 111, 112, 113, 114, 115, 116, 117, 118, 119, 120, 150, 151, 152, 153, 154, 155, 156, 157, 158, 159, 160, 161, 162, 163, 164, 165, 166, 167, 168, 169, 170, 171, 172, 173, 174, 175] (by decide +kernel) (by decide +kernel)
set_option maxRecDepth 20000 in
theorem gX9_findRange_X1_converse : GoodIn wsX9_findRange (wsV RX9 177 RX1 yX1_converse wsX1_converse) := goodIn_app (goodIn_of _ (by decide +kernel)) ggX9_findRange_X1_converse
set_option maxRecDepth 20000 in
theorem ggX9_findRange_X9_tooGreat : GoodIn wsX9_findRange wsX9_tooGreat := goodIn_r _ [125, 1, 126, 127, 128, 108, 92, 109, 3, 4, 129, 130, 131, 137, 138, 139, 140, 141, 142, 143, 144, 145, 146, 147, 148, 149, 150, 151, 152, 153, 154, 155, 156, 160, 161, 162, 163, 164, 165, 166, 167, 168, 169, 170, 157, 158, 159] (by decide +kernel) (by decide +kernel)
set_option maxRecDepth 20000 in
theorem gX9_findRange_X9_tooGreat : GoodIn wsX9_findRange (wsV RX9 243 RX9 yX9_tooGreat wsX9_tooGreat) := goodIn_app (goodIn_of _ (by decide +kernel)) ggX9_findRange_X9_tooGreat
set_option maxRecDepth 20000 in
theorem ggX9_findRange_X9_tooSmall : GoodIn wsX9_findRange wsX9_tooSmall := goodIn_r _ [135, 1, 126, 127, 128, 108, 92, 109, 3, 4, 129, 136, 131, 137, 138, 139, 140, 141, 142, 143, 144, 145, 146, 147, 148, 149, 150, 151, 152, 153, 154, 155, 156, 160, 161, 162, 163, 164, 165, 166, 167, 168, 169, 170, 157, 158, 159] (by decide +kernel) (by decide +kernel)
set_option maxRecDepth 20000 in
theorem gX9_findRange_X9_tooSmall : GoodIn wsX9_findRange (wsV RX9 246 RX9 yX9_tooSmall wsX9_tooSmall) := goodIn_app (goodIn_of _ (by decide +kernel)) ggX9_findRange_X9_tooSmall
theorem dX9_findRange_0 : decode cX9_findRange 0 = .ok (.iconst 0, 1) := by decide +kernel
theorem dX9_findRange_1 : decode cX9_findRange 1 = .ok (.istore_n 1, 1) := by decide +kernel
theorem dX9_findRange_2 : decode cX9_findRange 2 = .ok (.iconst 0, 1) := by decide +kernel
theorem dX9_findRange_3 : decode cX9_findRange 3 = .ok (.istore_n 2, 1) := by decide +kernel
theorem dX9_findRange_4 : decode cX9_findRange 4 = .ok (.iload_n 2, 1) := by decide +kernel
theorem dX9_findRange_5 : decode cX9_findRange 5 = .ok (.bipush 8, 2) := by decide +kernel
theorem dX9_findRange_7 : decode cX9_findRange 7 = .ok (.if_icmp .ge 104, 3) := by decide +kernel
theorem dX9_findRange_10 : decode cX9_findRange 10 = .ok (.aload_n 0, 1) := by decide +kernel
theorem dX9_findRange_11 : decode cX9_findRange 11 = .ok (.getfield 10, 3) := by decide +kernel
theorem dX9_findRange_14 : decode cX9_findRange 14 = .ok (.iconst 0, 1) := by decide +kernel
theorem dX9_findRange_15 : decode cX9_findRange 15 = .ok (.invokevirtual 177, 3) := by decide +kernel
theorem dX9_findRange_18 : decode cX9_findRange 18 = .ok (.aload_n 0, 1) := by decide +kernel
theorem dX9_findRange_19 : decode cX9_findRange 19 = .ok (.getfield 51, 3) := by decide +kernel
theorem dX9_findRange_22 : decode cX9_findRange 22 = .ok (.ifCond .ne 4, 3) := by decide +kernel
theorem dX9_findRange_25 : decode cX9_findRange 25 = .ok (.return_, 1) := by decide +kernel
theorem dX9_findRange_26 : decode cX9_findRange 26 = .ok (.aload_n 0, 1) := by decide +kernel
theorem dX9_findRange_27 : decode cX9_findRange 27 = .ok (.invokevirtual 243, 3) := by decide +kernel
theorem dX9_findRange_30 : decode cX9_findRange 30 = .ok (.ifCond .eq 34, 3) := by decide +kernel
theorem dX9_findRange_33 : decode cX9_findRange 33 = .ok (.aload_n 0, 1) := by decide +kernel
theorem dX9_findRange_34 : decode cX9_findRange 34 = .ok (.getfield 10, 3) := by decide +kernel
theorem dX9_findRange_37 : decode cX9_findRange 37 = .ok (.getfield 118, 3) := by decide +kernel
theorem dX9_findRange_40 : decode cX9_findRange 40 = .ok (.dup, 1) := by decide +kernel
theorem dX9_findRange_41 : decode cX9_findRange 41 = .ok (.getfield 122, 3) := by decide +kernel
theorem dX9_findRange_44 : decode cX9_findRange 44 = .ok (.iconst 1, 1) := by decide +kernel
theorem dX9_findRange_45 : decode cX9_findRange 45 = .ok (.isub, 1) := by decide +kernel
theorem dX9_findRange_46 : decode cX9_findRange 46 = .ok (.putfield 122, 3) := by decide +kernel
theorem dX9_findRange_49 : decode cX9_findRange 49 = .ok (.aload_n 0, 1) := by decide +kernel
theorem dX9_findRange_50 : decode cX9_findRange 50 = .ok (.dup, 1) := by decide +kernel
theorem dX9_findRange_51 : decode cX9_findRange 51 = .ok (.getfield 68, 3) := by decide +kernel
theorem dX9_findRange_54 : decode cX9_findRange 54 = .ok (.iconst 1, 1) := by decide +kernel
theorem dX9_findRange_55 : decode cX9_findRange 55 = .ok (.iadd, 1) := by decide +kernel
theorem dX9_findRange_56 : decode cX9_findRange 56 = .ok (.putfield 68, 3) := by decide +kernel
theorem dX9_findRange_59 : decode cX9_findRange 59 = .ok (.iconst 1, 1) := by decide +kernel
theorem dX9_findRange_60 : decode cX9_findRange 60 = .ok (.istore_n 1, 1) := by decide +kernel
theorem dX9_findRange_61 : decode cX9_findRange 61 = .ok (.goto 44, 3) := by decide +kernel
theorem dX9_findRange_64 : decode cX9_findRange 64 = .ok (.iload_n 1, 1) := by decide +kernel
theorem dX9_findRange_65 : decode cX9_findRange 65 = .ok (.ifCond .ne 39, 3) := by decide +kernel
theorem dX9_findRange_68 : decode cX9_findRange 68 = .ok (.aload_n 0, 1) := by decide +kernel
theorem dX9_findRange_69 : decode cX9_findRange 69 = .ok (.invokevirtual 246, 3) := by decide +kernel
theorem dX9_findRange_72 : decode cX9_findRange 72 = .ok (.ifCond .eq 32, 3) := by decide +kernel
theorem dX9_findRange_75 : decode cX9_findRange 75 = .ok (.aload_n 0, 1) := by decide +kernel
theorem dX9_findRange_76 : decode cX9_findRange 76 = .ok (.getfield 10, 3) := by decide +kernel
theorem dX9_findRange_79 : decode cX9_findRange 79 = .ok (.getfield 118, 3) := by decide +kernel
theorem dX9_findRange_82 : decode cX9_findRange 82 = .ok (.dup, 1) := by decide +kernel
theorem dX9_findRange_83 : decode cX9_findRange 83 = .ok (.getfield 122, 3) := by decide +kernel
theorem dX9_findRange_86 : decode cX9_findRange 86 = .ok (.iconst 1, 1) := by decide +kernel
theorem dX9_findRange_87 : decode cX9_findRange 87 = .ok (.iadd, 1) := by decide +kernel
theorem dX9_findRange_88 : decode cX9_findRange 88 = .ok (.putfield 122, 3) := by decide +kernel
theorem dX9_findRange_91 : decode cX9_findRange 91 = .ok (.aload_n 0, 1) := by decide +kernel
theorem dX9_findRange_92 : decode cX9_findRange 92 = .ok (.dup, 1) := by decide +kernel
theorem dX9_findRange_93 : decode cX9_findRange 93 = .ok (.getfield 65, 3) := by decide +kernel
theorem dX9_findRange_96 : decode cX9_findRange 96 = .ok (.iconst 1, 1) := by decide +kernel
theorem dX9_findRange_97 : decode cX9_findRange 97 = .ok (.iadd, 1) := by decide +kernel
theorem dX9_findRange_98 : decode cX9_findRange 98 = .ok (.putfield 65, 3) := by decide +kernel
theorem dX9_findRange_101 : decode cX9_findRange 101 = .ok (.goto 4, 3) := by decide +kernel
theorem dX9_findRange_104 : decode cX9_findRange 104 = .ok (.return_, 1) := by decide +kernel
theorem dX9_findRange_105 : decode cX9_findRange 105 = .ok (.iinc 2 1, 3) := by decide +kernel
theorem dX9_findRange_108 : decode cX9_findRange 108 = .ok (.goto (-104), 3) := by decide +kernel
theorem dX9_findRange_111 : decode cX9_findRange 111 = .ok (.return_, 1) := by decide +kernel
theorem dX9_tooGreat_0 : decode cX9_tooGreat 0 = .ok (.aload_n 0, 1) := by decide +kernel
theorem dX9_tooGreat_1 : decode cX9_tooGreat 1 = .ok (.getfield 10, 3) := by decide +kernel
theorem dX9_tooGreat_4 : decode cX9_tooGreat 4 = .ok (.getfield 181, 3) := by decide +kernel
theorem dX9_tooGreat_7 : decode cX9_tooGreat 7 = .ok (.getfield 219, 3) := by decide +kernel
theorem dX9_tooGreat_10 : decode cX9_tooGreat 10 = .ok (.invokestatic 249, 3) := by decide +kernel
theorem dX9_tooGreat_13 : decode cX9_tooGreat 13 = .ok (.lstore_n 1, 1) := by decide +kernel
theorem dX9_tooGreat_14 : decode cX9_tooGreat 14 = .ok (.aload_n 0, 1) := by decide +kernel
theorem dX9_tooGreat_15 : decode cX9_tooGreat 15 = .ok (.getfield 10, 3) := by decide +kernel
theorem dX9_tooGreat_18 : decode cX9_tooGreat 18 = .ok (.getfield 118, 3) := by decide +kernel
theorem dX9_tooGreat_21 : decode cX9_tooGreat 21 = .ok (.getfield 122, 3) := by decide +kernel
theorem dX9_tooGreat_24 : decode cX9_tooGreat 24 = .ok (.ifCond .le 37, 3) := by decide +kernel
theorem dX9_tooGreat_27 : decode cX9_tooGreat 27 = .ok (.aload_n 0, 1) := by decide +kernel
theorem dX9_tooGreat_28 : decode cX9_tooGreat 28 = .ok (.getfield 10, 3) := by decide +kernel
theorem dX9_tooGreat_31 : decode cX9_tooGreat 31 = .ok (.getfield 181, 3) := by decide +kernel
theorem dX9_tooGreat_34 : decode cX9_tooGreat 34 = .ok (.getfield 185, 3) := by decide +kernel
theorem dX9_tooGreat_37 : decode cX9_tooGreat 37 = .ok (.ifCond .ne 20, 3) := by decide +kernel
theorem dX9_tooGreat_40 : decode cX9_tooGreat 40 = .ok (.lload_n 1, 1) := by decide +kernel
theorem dX9_tooGreat_41 : decode cX9_tooGreat 41 = .ok (.ldc2_w 252, 3) := by decide +kernel
theorem dX9_tooGreat_44 : decode cX9_tooGreat 44 = .ok (.aload_n 0, 1) := by decide +kernel
theorem dX9_tooGreat_45 : decode cX9_tooGreat 45 = .ok (.getfield 10, 3) := by decide +kernel
theorem dX9_tooGreat_48 : decode cX9_tooGreat 48 = .ok (.getfield 115, 3) := by decide +kernel
theorem dX9_tooGreat_51 : decode cX9_tooGreat 51 = .ok (.i2l, 1) := by decide +kernel
theorem dX9_tooGreat_52 : decode cX9_tooGreat 52 = .ok (.lmul, 1) := by decide +kernel
theorem dX9_tooGreat_53 : decode cX9_tooGreat 53 = .ok (.lcmp, 1) := by decide +kernel
theorem dX9_tooGreat_54 : decode cX9_tooGreat 54 = .ok (.ifCond .le 7, 3) := by decide +kernel
theorem dX9_tooGreat_57 : decode cX9_tooGreat 57 = .ok (.iconst 1, 1) := by decide +kernel
theorem dX9_tooGreat_58 : decode cX9_tooGreat 58 = .ok (.goto 4, 3) := by decide +kernel
theorem dX9_tooGreat_61 : decode cX9_tooGreat 61 = .ok (.iconst 0, 1) := by decide +kernel
theorem dX9_tooGreat_62 : decode cX9_tooGreat 62 = .ok (.ireturn, 1) := by decide +kernel
theorem dX9_tooSmall_0 : decode cX9_tooSmall 0 = .ok (.aload_n 0, 1) := by decide +kernel
theorem dX9_tooSmall_1 : decode cX9_tooSmall 1 = .ok (.getfield 10, 3) := by decide +kernel
theorem dX9_tooSmall_4 : decode cX9_tooSmall 4 = .ok (.getfield 181, 3) := by decide +kernel
theorem dX9_tooSmall_7 : decode cX9_tooSmall 7 = .ok (.getfield 219, 3) := by decide +kernel
theorem dX9_tooSmall_10 : decode cX9_tooSmall 10 = .ok (.invokestatic 249, 3) := by decide +kernel
theorem dX9_tooSmall_13 : decode cX9_tooSmall 13 = .ok (.lstore_n 1, 1) := by decide +kernel
theorem dX9_tooSmall_14 : decode cX9_tooSmall 14 = .ok (.aload_n 0, 1) := by decide +kernel
theorem dX9_tooSmall_15 : decode cX9_tooSmall 15 = .ok (.getfield 10, 3) := by decide +kernel
theorem dX9_tooSmall_18 : decode cX9_tooSmall 18 = .ok (.getfield 118, 3) := by decide +kernel
theorem dX9_tooSmall_21 : decode cX9_tooSmall 21 = .ok (.getfield 122, 3) := by decide +kernel
theorem dX9_tooSmall_24 : decode cX9_tooSmall 24 = .ok (.iconst 2, 1) := by decide +kernel
theorem dX9_tooSmall_25 : decode cX9_tooSmall 25 = .ok (.if_icmp .ge 37, 3) := by decide +kernel
theorem dX9_tooSmall_28 : decode cX9_tooSmall 28 = .ok (.aload_n 0, 1) := by decide +kernel
theorem dX9_tooSmall_29 : decode cX9_tooSmall 29 = .ok (.getfield 10, 3) := by decide +kernel
theorem dX9_tooSmall_32 : decode cX9_tooSmall 32 = .ok (.getfield 181, 3) := by decide +kernel
theorem dX9_tooSmall_35 : decode cX9_tooSmall 35 = .ok (.getfield 185, 3) := by decide +kernel
theorem dX9_tooSmall_38 : decode cX9_tooSmall 38 = .ok (.ifCond .ne 24, 3) := by decide +kernel
theorem dX9_tooSmall_41 : decode cX9_tooSmall 41 = .ok (.lload_n 1, 1) := by decide +kernel
theorem dX9_tooSmall_42 : decode cX9_tooSmall 42 = .ok (.ldc2_w 254, 3) := by decide +kernel
theorem dX9_tooSmall_45 : decode cX9_tooSmall 45 = .ok (.aload_n 0, 1) := by decide +kernel
theorem dX9_tooSmall_46 : decode cX9_tooSmall 46 = .ok (.getfield 10, 3) := by decide +kernel
theorem dX9_tooSmall_49 : decode cX9_tooSmall 49 = .ok (.getfield 115, 3) := by decide +kernel
theorem dX9_tooSmall_52 : decode cX9_tooSmall 52 = .ok (.i2l, 1) := by decide +kernel
theorem dX9_tooSmall_53 : decode cX9_tooSmall 53 = .ok (.lmul, 1) := by decide +kernel
theorem dX9_tooSmall_54 : decode cX9_tooSmall 54 = .ok (.lcmp, 1) := by decide +kernel
theorem dX9_tooSmall_55 : decode cX9_tooSmall 55 = .ok (.ifCond .ge 7, 3) := by decide +kernel
theorem dX9_tooSmall_58 : decode cX9_tooSmall 58 = .ok (.iconst 1, 1) := by decide +kernel
theorem dX9_tooSmall_59 : decode cX9_tooSmall 59 = .ok (.goto 4, 3) := by decide +kernel
theorem dX9_tooSmall_62 : decode cX9_tooSmall 62 = .ok (.iconst 0, 1) := by decide +kernel
theorem dX9_tooSmall_63 : decode cX9_tooSmall 63 = .ok (.ireturn, 1) := by decide +kernel
set_option maxRecDepth 20000 in
theorem ggX9_findZero_X8_serves : GoodIn wsX9_findZero wsX8_serves := goodIn_r _ [15, 16, 17, 18, 19, 20, 14, 21, 22, 23, 24, 185, 186, 187] (by decide +kernel) (by decide +kernel)
set_option maxRecDepth 20000 in
theorem gX9_findZero_X8_serves : GoodIn wsX9_findZero (wsV RX9 259 RX8 yX8_serves wsX8_serves) := goodIn_app (goodIn_of _ (by decide +kernel)) ggX9_findZero_X8_serves
set_option maxRecDepth 20000 in
theorem ggX9_findZero_X8_sumOf : GoodIn wsX9_findZero wsX8_sumOf := goodIn_r _ [28, 29, 22, 23, 14, 24, 185, 186, 187] (by decide +kernel) (by decide +kernel)
set_option maxRecDepth 20000 in
theorem gX9_findZero_X8_sumOf : GoodIn wsX9_findZero (wsV RX9 263 RX8 yX8_sumOf wsX8_sumOf) := goodIn_app (goodIn_of _ (by decide +kernel)) ggX9_findZero_X8_sumOf
set_option maxRecDepth 20000 in
theorem ggX9_findZero_X1_converse : GoodIn wsX9_findZero wsX1_converse := goodIn_r _ [34, 35, 36, 37, 38, 39, 40, 41, 42, 43, 44, 45, 46, 47, 48, 49, 50, 51, 52, 53, 54, 55, 56, 57, 58, 59, 60, 61, 62, 63, 64, 65, 66, 67, 68, 69, 70, 71, 72, 73, 74, 75, 76, 77, 78, 79, 80, 81, 82, 83, 84, 85, 86, 87, 88, 89, 90, 91, 92, 93, 94, 95, 96, 97, 98, 99, 100, 101, 102, 103, 104, 105, 33, 106, 107, 108, 109, 110, 111, 112, 113, 114, 115, 116, 117, 118, 119, 120, 121, 122, 123, 124, 125, 126, 127, 128, 129, 130, 131, 132, 133, 134, 135, 136, 137, 138, 139, 140, 141, 142, 143, 161, 162, 163, 164, 165, 166, 167, 168, 169, 170, 174, 175, 176, 177, 178, 179, 180, 181, 182, 183, 184, 188, 189, 190, 191, 192] (by decide +kernel) (by decide +kernel)
set_option maxRecDepth 20000 in
theorem gX9_findZero_X1_converse : GoodIn wsX9_findZero (wsV RX9 177 RX1 yX1_converse wsX1_converse) := goodIn_app (goodIn_of _ (by decide +kernel)) ggX9_findZero_X1_converse
set_option maxRecDepth 20000 in
theorem ggX9_findZero_X8_keep : GoodIn wsX9_findZero wsX8_keep := goodIn_r _ [147, 29, 16, 17, 22, 23, 14, 24, 185, 186, 187] (by decide +kernel) (by decide +kernel)
set_option maxRecDepth 20000 in
theorem gX9_findZero_X8_keep : GoodIn wsX9_findZero (wsV RX9 267 RX8 yX8_keep wsX8_keep) := goodIn_app (goodIn_of _ (by decide +kernel)) ggX9_findZero_X8_keep
theorem dX9_findZero_0 : decode cX9_findZero 0 = .ok (.aload_n 0, 1) := by decide +kernel
theorem dX9_findZero_1 : decode cX9_findZero 1 = .ok (.getfield 55, 3) := by decide +kernel
theorem dX9_findZero_4 : decode cX9_findZero 4 = .ok (.ifCond .ne 5, 3) := by decide +kernel
theorem dX9_findZero_7 : decode cX9_findZero 7 = .ok (.lconst 0, 1) := by decide +kernel
theorem dX9_findZero_8 : decode cX9_findZero 8 = .ok (.lreturn, 1) := by decide +kernel
theorem dX9_findZero_9 : decode cX9_findZero 9 = .ok (.aload_n 0, 1) := by decide +kernel
theorem dX9_findZero_10 : decode cX9_findZero 10 = .ok (.getfield 10, 3) := by decide +kernel
theorem dX9_findZero_13 : decode cX9_findZero 13 = .ok (.getfield 118, 3) := by decide +kernel
theorem dX9_findZero_16 : decode cX9_findZero 16 = .ok (.getfield 122, 3) := by decide +kernel
theorem dX9_findZero_19 : decode cX9_findZero 19 = .ok (.istore_n 1, 1) := by decide +kernel
theorem dX9_findZero_20 : decode cX9_findZero 20 = .ok (.aload_n 0, 1) := by decide +kernel
theorem dX9_findZero_21 : decode cX9_findZero 21 = .ok (.getfield 33, 3) := by decide +kernel
theorem dX9_findZero_24 : decode cX9_findZero 24 = .ok (.getfield 256, 3) := by decide +kernel
theorem dX9_findZero_27 : decode cX9_findZero 27 = .ok (.iconst 1, 1) := by decide +kernel
theorem dX9_findZero_28 : decode cX9_findZero 28 = .ok (.iadd, 1) := by decide +kernel
theorem dX9_findZero_29 : decode cX9_findZero 29 = .ok (.istore_n 2, 1) := by decide +kernel
theorem dX9_findZero_30 : decode cX9_findZero 30 = .ok (.aload_n 0, 1) := by decide +kernel
theorem dX9_findZero_31 : decode cX9_findZero 31 = .ok (.getfield 55, 3) := by decide +kernel
theorem dX9_findZero_34 : decode cX9_findZero 34 = .ok (.iconst 2, 1) := by decide +kernel
theorem dX9_findZero_35 : decode cX9_findZero 35 = .ok (.if_icmp .ne 31, 3) := by decide +kernel
theorem dX9_findZero_38 : decode cX9_findZero 38 = .ok (.aload_n 0, 1) := by decide +kernel
theorem dX9_findZero_39 : decode cX9_findZero 39 = .ok (.getfield 19, 3) := by decide +kernel
theorem dX9_findZero_42 : decode cX9_findZero 42 = .ok (.iload_n 1, 1) := by decide +kernel
theorem dX9_findZero_43 : decode cX9_findZero 43 = .ok (.aload_n 0, 1) := by decide +kernel
theorem dX9_findZero_44 : decode cX9_findZero 44 = .ok (.getfield 10, 3) := by decide +kernel
theorem dX9_findZero_47 : decode cX9_findZero 47 = .ok (.getfield 115, 3) := by decide +kernel
theorem dX9_findZero_50 : decode cX9_findZero 50 = .ok (.iload_n 2, 1) := by decide +kernel
theorem dX9_findZero_51 : decode cX9_findZero 51 = .ok (.invokevirtual 259, 3) := by decide +kernel
theorem dX9_findZero_54 : decode cX9_findZero 54 = .ok (.ifCond .eq 12, 3) := by decide +kernel
theorem dX9_findZero_57 : decode cX9_findZero 57 = .ok (.aload_n 0, 1) := by decide +kernel
theorem dX9_findZero_58 : decode cX9_findZero 58 = .ok (.getfield 19, 3) := by decide +kernel
theorem dX9_findZero_61 : decode cX9_findZero 61 = .ok (.iload_n 1, 1) := by decide +kernel
theorem dX9_findZero_62 : decode cX9_findZero 62 = .ok (.invokevirtual 263, 3) := by decide +kernel
theorem dX9_findZero_65 : decode cX9_findZero 65 = .ok (.lreturn, 1) := by decide +kernel
theorem dX9_findZero_66 : decode cX9_findZero 66 = .ok (.aload_n 0, 1) := by decide +kernel
theorem dX9_findZero_67 : decode cX9_findZero 67 = .ok (.getfield 10, 3) := by decide +kernel
theorem dX9_findZero_70 : decode cX9_findZero 70 = .ok (.iconst 1, 1) := by decide +kernel
theorem dX9_findZero_71 : decode cX9_findZero 71 = .ok (.invokevirtual 177, 3) := by decide +kernel
theorem dX9_findZero_74 : decode cX9_findZero 74 = .ok (.aload_n 0, 1) := by decide +kernel
theorem dX9_findZero_75 : decode cX9_findZero 75 = .ok (.getfield 19, 3) := by decide +kernel
theorem dX9_findZero_78 : decode cX9_findZero 78 = .ok (.iload_n 1, 1) := by decide +kernel
theorem dX9_findZero_79 : decode cX9_findZero 79 = .ok (.aload_n 0, 1) := by decide +kernel
theorem dX9_findZero_80 : decode cX9_findZero 80 = .ok (.getfield 10, 3) := by decide +kernel
theorem dX9_findZero_83 : decode cX9_findZero 83 = .ok (.getfield 181, 3) := by decide +kernel
theorem dX9_findZero_86 : decode cX9_findZero 86 = .ok (.getfield 219, 3) := by decide +kernel
theorem dX9_findZero_89 : decode cX9_findZero 89 = .ok (.aload_n 0, 1) := by decide +kernel
theorem dX9_findZero_90 : decode cX9_findZero 90 = .ok (.getfield 10, 3) := by decide +kernel
theorem dX9_findZero_93 : decode cX9_findZero 93 = .ok (.getfield 115, 3) := by decide +kernel
theorem dX9_findZero_96 : decode cX9_findZero 96 = .ok (.iload_n 2, 1) := by decide +kernel
theorem dX9_findZero_97 : decode cX9_findZero 97 = .ok (.invokevirtual 267, 3) := by decide +kernel
theorem dX9_findZero_100 : decode cX9_findZero 100 = .ok (.aload_n 0, 1) := by decide +kernel
theorem dX9_findZero_101 : decode cX9_findZero 101 = .ok (.getfield 10, 3) := by decide +kernel
theorem dX9_findZero_104 : decode cX9_findZero 104 = .ok (.getfield 181, 3) := by decide +kernel
theorem dX9_findZero_107 : decode cX9_findZero 107 = .ok (.getfield 219, 3) := by decide +kernel
theorem dX9_findZero_110 : decode cX9_findZero 110 = .ok (.lreturn, 1) := by decide +kernel
set_option maxRecDepth 20000 in
theorem ggX9_plain_X0_gain : GoodIn wsX9_plain wsX0_gain := goodIn_r _ [9, 10, 11, 12, 33, 34, 35] (by decide +kernel) (by decide +kernel)
set_option maxRecDepth 20000 in
theorem gX9_plain_X0_gain : GoodIn wsX9_plain (wsV RX9 271 RX0 yX0_gain wsX0_gain) := goodIn_app (goodIn_of _ (by decide +kernel)) ggX9_plain_X0_gain
theorem dX9_plain_0 : decode cX9_plain 0 = .ok (.aload_n 0, 1) := by decide +kernel
theorem dX9_plain_1 : decode cX9_plain 1 = .ok (.getfield 10, 3) := by decide +kernel
theorem dX9_plain_4 : decode cX9_plain 4 = .ok (.getfield 115, 3) := by decide +kernel
theorem dX9_plain_7 : decode cX9_plain 7 = .ok (.i2l, 1) := by decide +kernel
theorem dX9_plain_8 : decode cX9_plain 8 = .ok (.aload_n 0, 1) := by decide +kernel
theorem dX9_plain_9 : decode cX9_plain 9 = .ok (.getfield 10, 3) := by decide +kernel
theorem dX9_plain_12 : decode cX9_plain 12 = .ok (.getfield 118, 3) := by decide +kernel
theorem dX9_plain_15 : decode cX9_plain 15 = .ok (.invokevirtual 271, 3) := by decide +kernel
theorem dX9_plain_18 : decode cX9_plain 18 = .ok (.lmul, 1) := by decide +kernel
theorem dX9_plain_19 : decode cX9_plain 19 = .ok (.lstore_n 3, 1) := by decide +kernel
theorem dX9_plain_20 : decode cX9_plain 20 = .ok (.lload_n 3, 1) := by decide +kernel
theorem dX9_plain_21 : decode cX9_plain 21 = .ok (.lconst 0, 1) := by decide +kernel
theorem dX9_plain_22 : decode cX9_plain 22 = .ok (.lcmp, 1) := by decide +kernel
theorem dX9_plain_23 : decode cX9_plain 23 = .ok (.ifCond .gt 5, 3) := by decide +kernel
theorem dX9_plain_26 : decode cX9_plain 26 = .ok (.lconst 0, 1) := by decide +kernel
theorem dX9_plain_27 : decode cX9_plain 27 = .ok (.lreturn, 1) := by decide +kernel
theorem dX9_plain_28 : decode cX9_plain 28 = .ok (.lload_n 1, 1) := by decide +kernel
theorem dX9_plain_29 : decode cX9_plain 29 = .ok (.ldc2_w 274, 3) := by decide +kernel
theorem dX9_plain_32 : decode cX9_plain 32 = .ok (.lmul, 1) := by decide +kernel
theorem dX9_plain_33 : decode cX9_plain 33 = .ok (.lload_n 3, 1) := by decide +kernel
theorem dX9_plain_34 : decode cX9_plain 34 = .ok (.ldiv, 1) := by decide +kernel
theorem dX9_plain_35 : decode cX9_plain 35 = .ok (.lreturn, 1) := by decide +kernel
theorem dX9_corrected_0 : decode cX9_corrected 0 = .ok (.lload_n 1, 1) := by decide +kernel
theorem dX9_corrected_1 : decode cX9_corrected 1 = .ok (.lload_n 1, 1) := by decide +kernel
theorem dX9_corrected_2 : decode cX9_corrected 2 = .ok (.ldc2_w 175, 3) := by decide +kernel
theorem dX9_corrected_5 : decode cX9_corrected 5 = .ok (.ldiv, 1) := by decide +kernel
theorem dX9_corrected_6 : decode cX9_corrected 6 = .ok (.aload_n 0, 1) := by decide +kernel
theorem dX9_corrected_7 : decode cX9_corrected 7 = .ok (.getfield 59, 3) := by decide +kernel
theorem dX9_corrected_10 : decode cX9_corrected 10 = .ok (.i2l, 1) := by decide +kernel
theorem dX9_corrected_11 : decode cX9_corrected 11 = .ok (.lmul, 1) := by decide +kernel
theorem dX9_corrected_12 : decode cX9_corrected 12 = .ok (.ladd, 1) := by decide +kernel
theorem dX9_corrected_13 : decode cX9_corrected 13 = .ok (.aload_n 0, 1) := by decide +kernel
theorem dX9_corrected_14 : decode cX9_corrected 14 = .ok (.getfield 62, 3) := by decide +kernel
theorem dX9_corrected_17 : decode cX9_corrected 17 = .ok (.i2l, 1) := by decide +kernel
theorem dX9_corrected_18 : decode cX9_corrected 18 = .ok (.ldc2_w 173, 3) := by decide +kernel
theorem dX9_corrected_21 : decode cX9_corrected 21 = .ok (.lmul, 1) := by decide +kernel
theorem dX9_corrected_22 : decode cX9_corrected 22 = .ok (.ladd, 1) := by decide +kernel
theorem dX9_corrected_23 : decode cX9_corrected 23 = .ok (.lreturn, 1) := by decide +kernel
set_option maxRecDepth 20000 in
theorem ggX9_latest_X2_part : GoodIn wsX9_latest wsX2_part := goodIn_r _ [10, 11, 12, 13, 14, 15, 16, 17, 18, 19, 20, 21, 22, 23, 24, 25, 26, 9, 27, 28, 29, 50, 51, 52, 53, 54, 55, 56, 57, 58, 59, 60] (by decide +kernel) (by decide +kernel)
set_option maxRecDepth 20000 in
theorem gX9_latest_X2_part : GoodIn wsX9_latest (wsV RX9 276 RX2 yX2_part wsX2_part) := goodIn_app (goodIn_of _ (by decide +kernel)) ggX9_latest_X2_part
theorem dX9_latest_0 : decode cX9_latest 0 = .ok (.iload_n 1, 1) := by decide +kernel
theorem dX9_latest_1 : decode cX9_latest 1 = .ok (.ifCond .lt 9, 3) := by decide +kernel
theorem dX9_latest_4 : decode cX9_latest 4 = .ok (.iload_n 1, 1) := by decide +kernel
theorem dX9_latest_5 : decode cX9_latest 5 = .ok (.bipush 15, 2) := by decide +kernel
theorem dX9_latest_7 : decode cX9_latest 7 = .ok (.if_icmp .lt 6, 3) := by decide +kernel
theorem dX9_latest_10 : decode cX9_latest 10 = .ok (.ldc 74, 2) := by decide +kernel
theorem dX9_latest_12 : decode cX9_latest 12 = .ok (.ireturn, 1) := by decide +kernel
theorem dX9_latest_13 : decode cX9_latest 13 = .ok (.aload_n 0, 1) := by decide +kernel
theorem dX9_latest_14 : decode cX9_latest 14 = .ok (.getfield 10, 3) := by decide +kernel
theorem dX9_latest_17 : decode cX9_latest 17 = .ok (.getfield 213, 3) := by decide +kernel
theorem dX9_latest_20 : decode cX9_latest 20 = .ok (.ifCond .ne 6, 3) := by decide +kernel
theorem dX9_latest_23 : decode cX9_latest 23 = .ok (.ldc 101, 2) := by decide +kernel
theorem dX9_latest_25 : decode cX9_latest 25 = .ok (.ireturn, 1) := by decide +kernel
theorem dX9_latest_26 : decode cX9_latest 26 = .ok (.aload_n 0, 1) := by decide +kernel
theorem dX9_latest_27 : decode cX9_latest 27 = .ok (.getfield 10, 3) := by decide +kernel
theorem dX9_latest_30 : decode cX9_latest 30 = .ok (.getfield 181, 3) := by decide +kernel
theorem dX9_latest_33 : decode cX9_latest 33 = .ok (.iload_n 1, 1) := by decide +kernel
theorem dX9_latest_34 : decode cX9_latest 34 = .ok (.invokevirtual 276, 3) := by decide +kernel
theorem dX9_latest_37 : decode cX9_latest 37 = .ok (.ireturn, 1) := by decide +kernel
set_option maxRecDepth 20000 in
theorem ggX9_reading_X3_kept : GoodIn wsX9_reading wsX3_kept := goodIn_r _ [8, 9, 10, 11, 12, 13, 33, 34, 35] (by decide +kernel) (by decide +kernel)
set_option maxRecDepth 20000 in
theorem gX9_reading_X3_kept : GoodIn wsX9_reading (wsV RX9 279 RX3 yX3_kept wsX3_kept) := goodIn_app (goodIn_of _ (by decide +kernel)) ggX9_reading_X3_kept
set_option maxRecDepth 20000 in
theorem ggX9_reading_X3_part : GoodIn wsX9_reading wsX3_part := goodIn_r _ [17, 9, 18, 19, 33, 34, 35] (by decide +kernel) (by decide +kernel)
set_option maxRecDepth 20000 in
theorem gX9_reading_X3_part : GoodIn wsX9_reading (wsV RX9 283 RX3 yX3_part wsX3_part) := goodIn_app (goodIn_of _ (by decide +kernel)) ggX9_reading_X3_part
theorem dX9_reading_0 : decode cX9_reading 0 = .ok (.iload_n 1, 1) := by decide +kernel
theorem dX9_reading_1 : decode cX9_reading 1 = .ok (.ifCond .lt 14, 3) := by decide +kernel
theorem dX9_reading_4 : decode cX9_reading 4 = .ok (.iload_n 1, 1) := by decide +kernel
theorem dX9_reading_5 : decode cX9_reading 5 = .ok (.aload_n 0, 1) := by decide +kernel
theorem dX9_reading_6 : decode cX9_reading 6 = .ok (.getfield 33, 3) := by decide +kernel
theorem dX9_reading_9 : decode cX9_reading 9 = .ok (.invokevirtual 279, 3) := by decide +kernel
theorem dX9_reading_12 : decode cX9_reading 12 = .ok (.if_icmp .lt 7, 3) := by decide +kernel
theorem dX9_reading_15 : decode cX9_reading 15 = .ok (.ldc_w 282, 3) := by decide +kernel
theorem dX9_reading_18 : decode cX9_reading 18 = .ok (.ireturn, 1) := by decide +kernel
theorem dX9_reading_19 : decode cX9_reading 19 = .ok (.iload_n 2, 1) := by decide +kernel
theorem dX9_reading_20 : decode cX9_reading 20 = .ok (.ifCond .lt 9, 3) := by decide +kernel
theorem dX9_reading_23 : decode cX9_reading 23 = .ok (.iload_n 2, 1) := by decide +kernel
theorem dX9_reading_24 : decode cX9_reading 24 = .ok (.bipush 8, 2) := by decide +kernel
theorem dX9_reading_26 : decode cX9_reading 26 = .ok (.if_icmp .lt 6, 3) := by decide +kernel
theorem dX9_reading_29 : decode cX9_reading 29 = .ok (.ldc 74, 2) := by decide +kernel
theorem dX9_reading_31 : decode cX9_reading 31 = .ok (.ireturn, 1) := by decide +kernel
theorem dX9_reading_32 : decode cX9_reading 32 = .ok (.aload_n 0, 1) := by decide +kernel
theorem dX9_reading_33 : decode cX9_reading 33 = .ok (.getfield 33, 3) := by decide +kernel
theorem dX9_reading_36 : decode cX9_reading 36 = .ok (.iload_n 1, 1) := by decide +kernel
theorem dX9_reading_37 : decode cX9_reading 37 = .ok (.iload_n 2, 1) := by decide +kernel
theorem dX9_reading_38 : decode cX9_reading 38 = .ok (.invokevirtual 283, 3) := by decide +kernel
theorem dX9_reading_41 : decode cX9_reading 41 = .ok (.ireturn, 1) := by decide +kernel
set_option maxRecDepth 20000 in
theorem ggX9_filter_X4_shown : GoodIn wsX9_filter wsX4_shown := goodIn_r _ [10, 11, 12, 13, 14, 9, 15, 16, 49, 50, 51, 52, 53] (by decide +kernel) (by decide +kernel)
set_option maxRecDepth 20000 in
theorem gX9_filter_X4_shown : GoodIn wsX9_filter (wsV RX9 286 RX4 yX4_shown wsX4_shown) := goodIn_app (goodIn_of _ (by decide +kernel)) ggX9_filter_X4_shown
set_option maxRecDepth 20000 in
theorem ggX9_filter_X9_flag : GoodIn wsX9_filter wsX9_flag := goodIn_r _ [20] (by decide +kernel) (by decide +kernel)
set_option maxRecDepth 20000 in
theorem gX9_filter_X9_flag : GoodIn wsX9_filter (va_wsS RX9 190 yX9_flag wsX9_flag) := goodIn_app (goodIn_of _ (by decide +kernel)) ggX9_filter_X9_flag
set_option maxRecDepth 20000 in
theorem ggX9_filter_X4_least : GoodIn wsX9_filter wsX4_least := goodIn_r _ [24, 11, 25, 26, 27, 28, 12, 13, 14, 9, 15, 16, 49, 50, 51, 52, 53] (by decide +kernel) (by decide +kernel)
set_option maxRecDepth 20000 in
theorem gX9_filter_X4_least : GoodIn wsX9_filter (wsV RX9 292 RX4 yX4_least wsX4_least) := goodIn_app (goodIn_of _ (by decide +kernel)) ggX9_filter_X4_least
set_option maxRecDepth 20000 in
theorem ggX9_filter_X4_greatest : GoodIn wsX9_filter wsX4_greatest := goodIn_r _ [32, 11, 33, 34, 27, 35, 12, 13, 14, 9, 15, 16, 49, 50, 51, 52, 53] (by decide +kernel) (by decide +kernel)
set_option maxRecDepth 20000 in
theorem gX9_filter_X4_greatest : GoodIn wsX9_filter (wsV RX9 295 RX4 yX4_greatest wsX4_greatest) := goodIn_app (goodIn_of _ (by decide +kernel)) ggX9_filter_X4_greatest
theorem dX9_filter_0 : decode cX9_filter 0 = .ok (.iload_n 1, 1) := by decide +kernel
theorem dX9_filter_1 : decode cX9_filter 1 = .ok (.tableswitch 125 0 5 #[39, 52, 65, 73, 99, 112], 39) := by decide +kernel
theorem dX9_filter_40 : decode cX9_filter 40 = .ok (.aload_n 0, 1) := by decide +kernel
theorem dX9_filter_41 : decode cX9_filter 41 = .ok (.getfield 26, 3) := by decide +kernel
theorem dX9_filter_44 : decode cX9_filter 44 = .ok (.invokevirtual 286, 3) := by decide +kernel
theorem dX9_filter_47 : decode cX9_filter 47 = .ok (.ldc2_w 173, 3) := by decide +kernel
theorem dX9_filter_50 : decode cX9_filter 50 = .ok (.ldiv, 1) := by decide +kernel
theorem dX9_filter_51 : decode cX9_filter 51 = .ok (.l2i, 1) := by decide +kernel
theorem dX9_filter_52 : decode cX9_filter 52 = .ok (.ireturn, 1) := by decide +kernel
theorem dX9_filter_53 : decode cX9_filter 53 = .ok (.aload_n 0, 1) := by decide +kernel
theorem dX9_filter_54 : decode cX9_filter 54 = .ok (.getfield 26, 3) := by decide +kernel
theorem dX9_filter_57 : decode cX9_filter 57 = .ok (.invokevirtual 286, 3) := by decide +kernel
theorem dX9_filter_60 : decode cX9_filter 60 = .ok (.ldc2_w 173, 3) := by decide +kernel
theorem dX9_filter_63 : decode cX9_filter 63 = .ok (.lrem, 1) := by decide +kernel
theorem dX9_filter_64 : decode cX9_filter 64 = .ok (.l2i, 1) := by decide +kernel
theorem dX9_filter_65 : decode cX9_filter 65 = .ok (.ireturn, 1) := by decide +kernel
theorem dX9_filter_66 : decode cX9_filter 66 = .ok (.aload_n 0, 1) := by decide +kernel
theorem dX9_filter_67 : decode cX9_filter 67 = .ok (.getfield 26, 3) := by decide +kernel
theorem dX9_filter_70 : decode cX9_filter 70 = .ok (.getfield 204, 3) := by decide +kernel
theorem dX9_filter_73 : decode cX9_filter 73 = .ok (.ireturn, 1) := by decide +kernel
theorem dX9_filter_74 : decode cX9_filter 74 = .ok (.aload_n 0, 1) := by decide +kernel
theorem dX9_filter_75 : decode cX9_filter 75 = .ok (.getfield 26, 3) := by decide +kernel
theorem dX9_filter_78 : decode cX9_filter 78 = .ok (.getfield 204, 3) := by decide +kernel
theorem dX9_filter_81 : decode cX9_filter 81 = .ok (.aload_n 0, 1) := by decide +kernel
theorem dX9_filter_82 : decode cX9_filter 82 = .ok (.getfield 26, 3) := by decide +kernel
theorem dX9_filter_85 : decode cX9_filter 85 = .ok (.getfield 289, 3) := by decide +kernel
theorem dX9_filter_88 : decode cX9_filter 88 = .ok (.if_icmp .ne 7, 3) := by decide +kernel
theorem dX9_filter_91 : decode cX9_filter 91 = .ok (.iconst 1, 1) := by decide +kernel
theorem dX9_filter_92 : decode cX9_filter 92 = .ok (.goto 4, 3) := by decide +kernel
theorem dX9_filter_95 : decode cX9_filter 95 = .ok (.iconst 0, 1) := by decide +kernel
theorem dX9_filter_96 : decode cX9_filter 96 = .ok (.invokestatic 190, 3) := by decide +kernel
theorem dX9_filter_99 : decode cX9_filter 99 = .ok (.ireturn, 1) := by decide +kernel
theorem dX9_filter_100 : decode cX9_filter 100 = .ok (.aload_n 0, 1) := by decide +kernel
theorem dX9_filter_101 : decode cX9_filter 101 = .ok (.getfield 26, 3) := by decide +kernel
theorem dX9_filter_104 : decode cX9_filter 104 = .ok (.invokevirtual 292, 3) := by decide +kernel
theorem dX9_filter_107 : decode cX9_filter 107 = .ok (.ldc2_w 173, 3) := by decide +kernel
theorem dX9_filter_110 : decode cX9_filter 110 = .ok (.ldiv, 1) := by decide +kernel
theorem dX9_filter_111 : decode cX9_filter 111 = .ok (.l2i, 1) := by decide +kernel
theorem dX9_filter_112 : decode cX9_filter 112 = .ok (.ireturn, 1) := by decide +kernel
theorem dX9_filter_113 : decode cX9_filter 113 = .ok (.aload_n 0, 1) := by decide +kernel
theorem dX9_filter_114 : decode cX9_filter 114 = .ok (.getfield 26, 3) := by decide +kernel
theorem dX9_filter_117 : decode cX9_filter 117 = .ok (.invokevirtual 295, 3) := by decide +kernel
theorem dX9_filter_120 : decode cX9_filter 120 = .ok (.ldc2_w 173, 3) := by decide +kernel
theorem dX9_filter_123 : decode cX9_filter 123 = .ok (.ldiv, 1) := by decide +kernel
theorem dX9_filter_124 : decode cX9_filter 124 = .ok (.l2i, 1) := by decide +kernel
theorem dX9_filter_125 : decode cX9_filter 125 = .ok (.ireturn, 1) := by decide +kernel
theorem dX9_filter_126 : decode cX9_filter 126 = .ok (.ldc 74, 2) := by decide +kernel
theorem dX9_filter_128 : decode cX9_filter 128 = .ok (.ireturn, 1) := by decide +kernel
set_option maxRecDepth 20000 in
theorem ggX9_held_X4_valueAt : GoodIn wsX9_held wsX4_valueAt := goodIn_r _ [10, 11, 12, 26, 27, 28, 29, 30] (by decide +kernel) (by decide +kernel)
set_option maxRecDepth 20000 in
theorem gX9_held_X4_valueAt : GoodIn wsX9_held (wsV RX9 298 RX4 yX4_valueAt wsX4_valueAt) := goodIn_app (goodIn_of _ (by decide +kernel)) ggX9_held_X4_valueAt
theorem dX9_held_0 : decode cX9_held 0 = .ok (.iload_n 1, 1) := by decide +kernel
theorem dX9_held_1 : decode cX9_held 1 = .ok (.ifCond .lt 14, 3) := by decide +kernel
theorem dX9_held_4 : decode cX9_held 4 = .ok (.iload_n 1, 1) := by decide +kernel
theorem dX9_held_5 : decode cX9_held 5 = .ok (.aload_n 0, 1) := by decide +kernel
theorem dX9_held_6 : decode cX9_held 6 = .ok (.getfield 26, 3) := by decide +kernel
theorem dX9_held_9 : decode cX9_held 9 = .ok (.getfield 204, 3) := by decide +kernel
theorem dX9_held_12 : decode cX9_held 12 = .ok (.if_icmp .lt 7, 3) := by decide +kernel
theorem dX9_held_15 : decode cX9_held 15 = .ok (.ldc_w 282, 3) := by decide +kernel
theorem dX9_held_18 : decode cX9_held 18 = .ok (.ireturn, 1) := by decide +kernel
theorem dX9_held_19 : decode cX9_held 19 = .ok (.iload_n 2, 1) := by decide +kernel
theorem dX9_held_20 : decode cX9_held 20 = .ok (.ifCond .lt 8, 3) := by decide +kernel
theorem dX9_held_23 : decode cX9_held 23 = .ok (.iload_n 2, 1) := by decide +kernel
theorem dX9_held_24 : decode cX9_held 24 = .ok (.iconst 2, 1) := by decide +kernel
theorem dX9_held_25 : decode cX9_held 25 = .ok (.if_icmp .lt 6, 3) := by decide +kernel
theorem dX9_held_28 : decode cX9_held 28 = .ok (.ldc 74, 2) := by decide +kernel
theorem dX9_held_30 : decode cX9_held 30 = .ok (.ireturn, 1) := by decide +kernel
theorem dX9_held_31 : decode cX9_held 31 = .ok (.aload_n 0, 1) := by decide +kernel
theorem dX9_held_32 : decode cX9_held 32 = .ok (.getfield 26, 3) := by decide +kernel
theorem dX9_held_35 : decode cX9_held 35 = .ok (.iload_n 1, 1) := by decide +kernel
theorem dX9_held_36 : decode cX9_held 36 = .ok (.invokevirtual 298, 3) := by decide +kernel
theorem dX9_held_39 : decode cX9_held 39 = .ok (.lstore_n 3, 1) := by decide +kernel
theorem dX9_held_40 : decode cX9_held 40 = .ok (.iload_n 2, 1) := by decide +kernel
theorem dX9_held_41 : decode cX9_held 41 = .ok (.ifCond .ne 11, 3) := by decide +kernel
theorem dX9_held_44 : decode cX9_held 44 = .ok (.lload_n 3, 1) := by decide +kernel
theorem dX9_held_45 : decode cX9_held 45 = .ok (.ldc2_w 173, 3) := by decide +kernel
theorem dX9_held_48 : decode cX9_held 48 = .ok (.ldiv, 1) := by decide +kernel
theorem dX9_held_49 : decode cX9_held 49 = .ok (.goto 8, 3) := by decide +kernel
theorem dX9_held_52 : decode cX9_held 52 = .ok (.lload_n 3, 1) := by decide +kernel
theorem dX9_held_53 : decode cX9_held 53 = .ok (.ldc2_w 173, 3) := by decide +kernel
theorem dX9_held_56 : decode cX9_held 56 = .ok (.lrem, 1) := by decide +kernel
theorem dX9_held_57 : decode cX9_held 57 = .ok (.l2i, 1) := by decide +kernel
theorem dX9_held_58 : decode cX9_held 58 = .ok (.ireturn, 1) := by decide +kernel
set_option maxRecDepth 20000 in
theorem ggX9_about_X9_flag : GoodIn wsX9_about wsX9_flag := goodIn_r _ [19] (by decide +kernel) (by decide +kernel)
set_option maxRecDepth 20000 in
theorem gX9_about_X9_flag : GoodIn wsX9_about (va_wsS RX9 190 yX9_flag wsX9_flag) := goodIn_app (goodIn_of _ (by decide +kernel)) ggX9_about_X9_flag
theorem dX9_about_0 : decode cX9_about 0 = .ok (.iload_n 1, 1) := by decide +kernel
theorem dX9_about_1 : decode cX9_about 1 = .ok (.tableswitch 146 0 9 #[55, 66, 74, 82, 87, 95, 103, 114, 125, 137], 55) := by decide +kernel
theorem dX9_about_56 : decode cX9_about 56 = .ok (.aload_n 0, 1) := by decide +kernel
theorem dX9_about_57 : decode cX9_about 57 = .ok (.getfield 10, 3) := by decide +kernel
theorem dX9_about_60 : decode cX9_about 60 = .ok (.getfield 118, 3) := by decide +kernel
theorem dX9_about_63 : decode cX9_about 63 = .ok (.getfield 122, 3) := by decide +kernel
theorem dX9_about_66 : decode cX9_about 66 = .ok (.ireturn, 1) := by decide +kernel
theorem dX9_about_67 : decode cX9_about 67 = .ok (.aload_n 0, 1) := by decide +kernel
theorem dX9_about_68 : decode cX9_about 68 = .ok (.getfield 51, 3) := by decide +kernel
theorem dX9_about_71 : decode cX9_about 71 = .ok (.invokestatic 190, 3) := by decide +kernel
theorem dX9_about_74 : decode cX9_about 74 = .ok (.ireturn, 1) := by decide +kernel
theorem dX9_about_75 : decode cX9_about 75 = .ok (.aload_n 0, 1) := by decide +kernel
theorem dX9_about_76 : decode cX9_about 76 = .ok (.getfield 10, 3) := by decide +kernel
theorem dX9_about_79 : decode cX9_about 79 = .ok (.getfield 115, 3) := by decide +kernel
theorem dX9_about_82 : decode cX9_about 82 = .ok (.ireturn, 1) := by decide +kernel
theorem dX9_about_83 : decode cX9_about 83 = .ok (.aload_n 0, 1) := by decide +kernel
theorem dX9_about_84 : decode cX9_about 84 = .ok (.getfield 55, 3) := by decide +kernel
theorem dX9_about_87 : decode cX9_about 87 = .ok (.ireturn, 1) := by decide +kernel
theorem dX9_about_88 : decode cX9_about 88 = .ok (.aload_n 0, 1) := by decide +kernel
theorem dX9_about_89 : decode cX9_about 89 = .ok (.getfield 26, 3) := by decide +kernel
theorem dX9_about_92 : decode cX9_about 92 = .ok (.getfield 289, 3) := by decide +kernel
theorem dX9_about_95 : decode cX9_about 95 = .ok (.ireturn, 1) := by decide +kernel
theorem dX9_about_96 : decode cX9_about 96 = .ok (.aload_n 0, 1) := by decide +kernel
theorem dX9_about_97 : decode cX9_about 97 = .ok (.getfield 26, 3) := by decide +kernel
theorem dX9_about_100 : decode cX9_about 100 = .ok (.getfield 131, 3) := by decide +kernel
theorem dX9_about_103 : decode cX9_about 103 = .ok (.ireturn, 1) := by decide +kernel
theorem dX9_about_104 : decode cX9_about 104 = .ok (.aload_n 0, 1) := by decide +kernel
theorem dX9_about_105 : decode cX9_about 105 = .ok (.getfield 10, 3) := by decide +kernel
theorem dX9_about_108 : decode cX9_about 108 = .ok (.getfield 134, 3) := by decide +kernel
theorem dX9_about_111 : decode cX9_about 111 = .ok (.getfield 138, 3) := by decide +kernel
theorem dX9_about_114 : decode cX9_about 114 = .ok (.ireturn, 1) := by decide +kernel
theorem dX9_about_115 : decode cX9_about 115 = .ok (.aload_n 0, 1) := by decide +kernel
theorem dX9_about_116 : decode cX9_about 116 = .ok (.getfield 10, 3) := by decide +kernel
theorem dX9_about_119 : decode cX9_about 119 = .ok (.getfield 118, 3) := by decide +kernel
theorem dX9_about_122 : decode cX9_about 122 = .ok (.getfield 167, 3) := by decide +kernel
theorem dX9_about_125 : decode cX9_about 125 = .ok (.ireturn, 1) := by decide +kernel
theorem dX9_about_126 : decode cX9_about 126 = .ok (.aload_n 0, 1) := by decide +kernel
theorem dX9_about_127 : decode cX9_about 127 = .ok (.getfield 10, 3) := by decide +kernel
theorem dX9_about_130 : decode cX9_about 130 = .ok (.getfield 134, 3) := by decide +kernel
theorem dX9_about_133 : decode cX9_about 133 = .ok (.getfield 159, 3) := by decide +kernel
theorem dX9_about_136 : decode cX9_about 136 = .ok (.l2i, 1) := by decide +kernel
theorem dX9_about_137 : decode cX9_about 137 = .ok (.ireturn, 1) := by decide +kernel
theorem dX9_about_138 : decode cX9_about 138 = .ok (.aload_n 0, 1) := by decide +kernel
theorem dX9_about_139 : decode cX9_about 139 = .ok (.getfield 10, 3) := by decide +kernel
theorem dX9_about_142 : decode cX9_about 142 = .ok (.getfield 236, 3) := by decide +kernel
theorem dX9_about_145 : decode cX9_about 145 = .ok (.l2i, 1) := by decide +kernel
theorem dX9_about_146 : decode cX9_about 146 = .ok (.ireturn, 1) := by decide +kernel
theorem dX9_about_147 : decode cX9_about 147 = .ok (.ldc 74, 2) := by decide +kernel
theorem dX9_about_149 : decode cX9_about 149 = .ok (.ireturn, 1) := by decide +kernel
set_option maxRecDepth 20000 in
theorem ggX9_zero_X8_has : GoodIn wsX9_zero wsX8_has := goodIn_r _ [8, 9, 10, 11, 7, 12, 34, 35, 36] (by decide +kernel) (by decide +kernel)
set_option maxRecDepth 20000 in
theorem gX9_zero_X8_has : GoodIn wsX9_zero (wsV RX9 301 RX8 yX8_has wsX8_has) := goodIn_app (goodIn_of _ (by decide +kernel)) ggX9_zero_X8_has
set_option maxRecDepth 20000 in
theorem ggX9_zero_X8_part : GoodIn wsX9_zero wsX8_part := goodIn_r _ [16, 17, 18, 19, 20, 9, 10, 11, 7, 12, 34, 35, 36] (by decide +kernel) (by decide +kernel)
set_option maxRecDepth 20000 in
theorem gX9_zero_X8_part : GoodIn wsX9_zero (wsV RX9 304 RX8 yX8_part wsX8_part) := goodIn_app (goodIn_of _ (by decide +kernel)) ggX9_zero_X8_part
theorem dX9_zero_0 : decode cX9_zero 0 = .ok (.iload_n 1, 1) := by decide +kernel
theorem dX9_zero_1 : decode cX9_zero 1 = .ok (.ifCond .lt 17, 3) := by decide +kernel
theorem dX9_zero_4 : decode cX9_zero 4 = .ok (.iload_n 1, 1) := by decide +kernel
theorem dX9_zero_5 : decode cX9_zero 5 = .ok (.iconst 3, 1) := by decide +kernel
theorem dX9_zero_6 : decode cX9_zero 6 = .ok (.if_icmp .ge 12, 3) := by decide +kernel
theorem dX9_zero_9 : decode cX9_zero 9 = .ok (.iload_n 2, 1) := by decide +kernel
theorem dX9_zero_10 : decode cX9_zero 10 = .ok (.ifCond .lt 8, 3) := by decide +kernel
theorem dX9_zero_13 : decode cX9_zero 13 = .ok (.iload_n 2, 1) := by decide +kernel
theorem dX9_zero_14 : decode cX9_zero 14 = .ok (.iconst 4, 1) := by decide +kernel
theorem dX9_zero_15 : decode cX9_zero 15 = .ok (.if_icmp .lt 6, 3) := by decide +kernel
theorem dX9_zero_18 : decode cX9_zero 18 = .ok (.ldc 74, 2) := by decide +kernel
theorem dX9_zero_20 : decode cX9_zero 20 = .ok (.ireturn, 1) := by decide +kernel
theorem dX9_zero_21 : decode cX9_zero 21 = .ok (.aload_n 0, 1) := by decide +kernel
theorem dX9_zero_22 : decode cX9_zero 22 = .ok (.getfield 19, 3) := by decide +kernel
theorem dX9_zero_25 : decode cX9_zero 25 = .ok (.iload_n 1, 1) := by decide +kernel
theorem dX9_zero_26 : decode cX9_zero 26 = .ok (.invokevirtual 301, 3) := by decide +kernel
theorem dX9_zero_29 : decode cX9_zero 29 = .ok (.ifCond .ne 6, 3) := by decide +kernel
theorem dX9_zero_32 : decode cX9_zero 32 = .ok (.ldc 101, 2) := by decide +kernel
theorem dX9_zero_34 : decode cX9_zero 34 = .ok (.ireturn, 1) := by decide +kernel
theorem dX9_zero_35 : decode cX9_zero 35 = .ok (.aload_n 0, 1) := by decide +kernel
theorem dX9_zero_36 : decode cX9_zero 36 = .ok (.getfield 19, 3) := by decide +kernel
theorem dX9_zero_39 : decode cX9_zero 39 = .ok (.iload_n 1, 1) := by decide +kernel
theorem dX9_zero_40 : decode cX9_zero 40 = .ok (.iload_n 2, 1) := by decide +kernel
theorem dX9_zero_41 : decode cX9_zero 41 = .ok (.invokevirtual 304, 3) := by decide +kernel
theorem dX9_zero_44 : decode cX9_zero 44 = .ok (.ireturn, 1) := by decide +kernel
set_option maxRecDepth 20000 in
theorem ggX9_input_X7_calmAt : GoodIn wsX9_input wsX7_calmAt := goodIn_r _ [8, 9, 10, 11, 12, 13, 14, 15, 7, 16, 17, 18, 19, 20, 41, 42, 43, 44, 45] (by decide +kernel) (by decide +kernel)
set_option maxRecDepth 20000 in
theorem gX9_input_X7_calmAt : GoodIn wsX9_input (wsV RX9 305 RX7 yX7_calmAt wsX7_calmAt) := goodIn_app (goodIn_of _ (by decide +kernel)) ggX9_input_X7_calmAt
theorem dX9_input_0 : decode cX9_input 0 = .ok (.iload_n 1, 1) := by decide +kernel
theorem dX9_input_1 : decode cX9_input 1 = .ok (.ifCond .ge 6, 3) := by decide +kernel
theorem dX9_input_4 : decode cX9_input 4 = .ok (.ldc 74, 2) := by decide +kernel
theorem dX9_input_6 : decode cX9_input 6 = .ok (.ireturn, 1) := by decide +kernel
theorem dX9_input_7 : decode cX9_input 7 = .ok (.aload_n 0, 1) := by decide +kernel
theorem dX9_input_8 : decode cX9_input 8 = .ok (.getfield 10, 3) := by decide +kernel
theorem dX9_input_11 : decode cX9_input 11 = .ok (.getfield 134, 3) := by decide +kernel
theorem dX9_input_14 : decode cX9_input 14 = .ok (.iload_n 1, 1) := by decide +kernel
theorem dX9_input_15 : decode cX9_input 15 = .ok (.i2l, 1) := by decide +kernel
theorem dX9_input_16 : decode cX9_input 16 = .ok (.invokevirtual 305, 3) := by decide +kernel
theorem dX9_input_19 : decode cX9_input 19 = .ok (.l2i, 1) := by decide +kernel
theorem dX9_input_20 : decode cX9_input 20 = .ok (.ireturn, 1) := by decide +kernel
theorem dX9_count_0 : decode cX9_count 0 = .ok (.iload_n 1, 1) := by decide +kernel
theorem dX9_count_1 : decode cX9_count 1 = .ok (.tableswitch 114 0 8 #[51, 59, 67, 75, 83, 91, 96, 101, 109], 51) := by decide +kernel
theorem dX9_count_52 : decode cX9_count 52 = .ok (.aload_n 0, 1) := by decide +kernel
theorem dX9_count_53 : decode cX9_count 53 = .ok (.getfield 40, 3) := by decide +kernel
theorem dX9_count_56 : decode cX9_count 56 = .ok (.getfield 80, 3) := by decide +kernel
theorem dX9_count_59 : decode cX9_count 59 = .ok (.ireturn, 1) := by decide +kernel
theorem dX9_count_60 : decode cX9_count 60 = .ok (.aload_n 0, 1) := by decide +kernel
theorem dX9_count_61 : decode cX9_count 61 = .ok (.getfield 33, 3) := by decide +kernel
theorem dX9_count_64 : decode cX9_count 64 = .ok (.getfield 256, 3) := by decide +kernel
theorem dX9_count_67 : decode cX9_count 67 = .ok (.ireturn, 1) := by decide +kernel
theorem dX9_count_68 : decode cX9_count 68 = .ok (.aload_n 0, 1) := by decide +kernel
theorem dX9_count_69 : decode cX9_count 69 = .ok (.getfield 33, 3) := by decide +kernel
theorem dX9_count_72 : decode cX9_count 72 = .ok (.getfield 308, 3) := by decide +kernel
theorem dX9_count_75 : decode cX9_count 75 = .ok (.ireturn, 1) := by decide +kernel
theorem dX9_count_76 : decode cX9_count 76 = .ok (.aload_n 0, 1) := by decide +kernel
theorem dX9_count_77 : decode cX9_count 77 = .ok (.getfield 10, 3) := by decide +kernel
theorem dX9_count_80 : decode cX9_count 80 = .ok (.getfield 213, 3) := by decide +kernel
theorem dX9_count_83 : decode cX9_count 83 = .ok (.ireturn, 1) := by decide +kernel
theorem dX9_count_84 : decode cX9_count 84 = .ok (.aload_n 0, 1) := by decide +kernel
theorem dX9_count_85 : decode cX9_count 85 = .ok (.getfield 10, 3) := by decide +kernel
theorem dX9_count_88 : decode cX9_count 88 = .ok (.getfield 310, 3) := by decide +kernel
theorem dX9_count_91 : decode cX9_count 91 = .ok (.ireturn, 1) := by decide +kernel
theorem dX9_count_92 : decode cX9_count 92 = .ok (.aload_n 0, 1) := by decide +kernel
theorem dX9_count_93 : decode cX9_count 93 = .ok (.getfield 65, 3) := by decide +kernel
theorem dX9_count_96 : decode cX9_count 96 = .ok (.ireturn, 1) := by decide +kernel
theorem dX9_count_97 : decode cX9_count 97 = .ok (.aload_n 0, 1) := by decide +kernel
theorem dX9_count_98 : decode cX9_count 98 = .ok (.getfield 68, 3) := by decide +kernel
theorem dX9_count_101 : decode cX9_count 101 = .ok (.ireturn, 1) := by decide +kernel
theorem dX9_count_102 : decode cX9_count 102 = .ok (.aload_n 0, 1) := by decide +kernel
theorem dX9_count_103 : decode cX9_count 103 = .ok (.getfield 26, 3) := by decide +kernel
theorem dX9_count_106 : decode cX9_count 106 = .ok (.getfield 313, 3) := by decide +kernel
theorem dX9_count_109 : decode cX9_count 109 = .ok (.ireturn, 1) := by decide +kernel
theorem dX9_count_110 : decode cX9_count 110 = .ok (.aload_n 0, 1) := by decide +kernel
theorem dX9_count_111 : decode cX9_count 111 = .ok (.getfield 71, 3) := by decide +kernel
theorem dX9_count_114 : decode cX9_count 114 = .ok (.ireturn, 1) := by decide +kernel
theorem dX9_count_115 : decode cX9_count 115 = .ok (.ldc 74, 2) := by decide +kernel
theorem dX9_count_117 : decode cX9_count 117 = .ok (.ireturn, 1) := by decide +kernel
set_option maxRecDepth 20000 in
theorem ggX9_digest_X9_about : GoodIn wsX9_digest wsX9_about := goodIn_r _ [8, 9, 10, 11, 12, 13, 14, 15, 16, 17, 18, 19, 20, 21, 22, 23, 24, 25, 7, 26, 194, 195, 196, 197, 198, 199, 200, 201, 202, 203, 204, 205, 206, 209, 210, 211, 212, 213, 214, 215, 216, 217, 218, 219, 220, 221, 222, 223, 224, 225, 226, 227, 228] (by decide +kernel) (by decide +kernel)
set_option maxRecDepth 20000 in
theorem gX9_digest_X9_about : GoodIn wsX9_digest (wsV RX9 318 RX9 yX9_about wsX9_about) := goodIn_app (goodIn_of _ (by decide +kernel)) ggX9_digest_X9_about
set_option maxRecDepth 20000 in
theorem ggX9_digest_X9_folded : GoodIn wsX9_digest wsX9_folded := goodIn_r _ [29, 30] (by decide +kernel) (by decide +kernel)
set_option maxRecDepth 20000 in
theorem gX9_digest_X9_folded : GoodIn wsX9_digest (va_wsS RX9 321 yX9_folded wsX9_folded) := goodIn_app (goodIn_of _ (by decide +kernel)) ggX9_digest_X9_folded
set_option maxRecDepth 20000 in
theorem ggX9_digest_X9_foldLatest : GoodIn wsX9_digest wsX9_foldLatest := goodIn_r _ [34, 9, 35, 36, 37, 38, 7, 39, 23, 40, 41, 42, 43, 44, 45, 46, 47, 48, 49, 50, 51, 52, 53, 54, 55, 56, 25, 26, 57, 58, 59, 60, 61, 62, 27, 28, 29, 30, 194, 195, 196, 197, 198, 199, 200, 201, 202, 203, 204, 205, 206, 209, 210, 211, 212, 213, 214, 215, 229, 230, 231, 232, 233, 234, 235, 236, 237, 238, 239] (by decide +kernel) (by decide +kernel)
set_option maxRecDepth 20000 in
theorem gX9_digest_X9_foldLatest : GoodIn wsX9_digest (wsV RX9 324 RX9 yX9_foldLatest wsX9_foldLatest) := goodIn_app (goodIn_of _ (by decide +kernel)) ggX9_digest_X9_foldLatest
set_option maxRecDepth 20000 in
theorem ggX9_digest_X9_foldReadings : GoodIn wsX9_digest wsX9_foldReadings := goodIn_r _ [66, 67, 68, 69, 70, 71, 72, 73, 74, 75, 76, 77, 78, 79, 80, 7, 81, 82, 23, 83, 84, 85, 86, 87, 88, 27, 28, 29, 30, 194, 195, 196, 197, 198, 199, 200, 201, 202, 203, 204, 205, 206, 240, 241, 242] (by decide +kernel) (by decide +kernel)
set_option maxRecDepth 20000 in
theorem gX9_digest_X9_foldReadings : GoodIn wsX9_digest (wsV RX9 327 RX9 yX9_foldReadings wsX9_foldReadings) := goodIn_app (goodIn_of _ (by decide +kernel)) ggX9_digest_X9_foldReadings
set_option maxRecDepth 20000 in
theorem ggX9_digest_X9_foldFilter : GoodIn wsX9_digest wsX9_foldFilter := goodIn_r _ [92, 15, 93, 94, 95, 96, 7, 97, 98, 16, 23, 99, 100, 101, 102, 103, 104, 105, 106, 107, 108, 109, 24, 25, 26, 110, 111, 112, 113, 114, 115, 76, 116, 117, 118, 119, 120, 121, 122, 123, 27, 28, 29, 30, 124, 125, 126, 127, 82, 128, 194, 195, 196, 197, 198, 199, 200, 201, 202, 203, 204, 205, 206, 219, 220, 221, 222, 223] (by decide +kernel) (by decide +kernel)
set_option maxRecDepth 20000 in
theorem gX9_digest_X9_foldFilter : GoodIn wsX9_digest (wsV RX9 330 RX9 yX9_foldFilter wsX9_foldFilter) := goodIn_app (goodIn_of _ (by decide +kernel)) ggX9_digest_X9_foldFilter
set_option maxRecDepth 20000 in
theorem ggX9_digest_X9_foldZeros : GoodIn wsX9_digest wsX9_foldZeros := goodIn_r _ [132, 133, 134, 135, 136, 137, 138, 139, 140, 141, 142, 143, 144, 145, 7, 146, 23, 40, 147, 148, 149, 150, 151, 152, 153, 154, 27, 28, 29, 30, 194, 195, 196, 197, 198, 199, 200, 201, 202, 203, 204, 205, 206, 243, 244, 245] (by decide +kernel) (by decide +kernel)
set_option maxRecDepth 20000 in
theorem gX9_digest_X9_foldZeros : GoodIn wsX9_digest (wsV RX9 333 RX9 yX9_foldZeros wsX9_foldZeros) := goodIn_app (goodIn_of _ (by decide +kernel)) ggX9_digest_X9_foldZeros
set_option maxRecDepth 20000 in
theorem ggX9_digest_X9_input : GoodIn wsX9_digest wsX9_input := goodIn_r _ [158, 23, 9, 18, 159, 160, 161, 162, 163, 164, 165, 166, 167, 168, 169, 170, 171, 172, 173, 174, 175, 194, 195, 196, 197, 198, 199, 200, 201, 202, 203, 204, 205, 206, 209, 210, 211, 212, 213, 214, 215, 224, 225, 226, 227, 228] (by decide +kernel) (by decide +kernel)
set_option maxRecDepth 20000 in
theorem gX9_digest_X9_input : GoodIn wsX9_digest (wsV RX9 336 RX9 yX9_input wsX9_input) := goodIn_app (goodIn_of _ (by decide +kernel)) ggX9_digest_X9_input
set_option maxRecDepth 20000 in
theorem ggX9_digest_X5_codeAt : GoodIn wsX9_digest wsX5_codeAt := goodIn_r _ [180, 181, 182, 207, 208] (by decide +kernel) (by decide +kernel)
set_option maxRecDepth 20000 in
theorem gX9_digest_X5_codeAt : GoodIn wsX9_digest (wsV RX9 86 RX5 yX5_codeAt wsX5_codeAt) := goodIn_app (goodIn_of _ (by decide +kernel)) ggX9_digest_X5_codeAt
set_option maxRecDepth 20000 in
theorem ggX9_digest_X9_count : GoodIn wsX9_digest wsX9_count := goodIn_r _ [186, 2, 3, 67, 187, 188, 9, 35, 189, 190, 191, 15, 192, 193, 23, 194, 195, 196, 197, 198, 199, 200, 201, 202, 203, 204, 205, 206, 207, 208, 240, 241, 242, 209, 210, 211, 212, 213, 214, 215, 219, 220, 221, 222, 223] (by decide +kernel) (by decide +kernel)
set_option maxRecDepth 20000 in
theorem gX9_digest_X9_count : GoodIn wsX9_digest (wsV RX9 339 RX9 yX9_count wsX9_count) := goodIn_app (goodIn_of _ (by decide +kernel)) ggX9_digest_X9_count
theorem dX9_digest_0 : decode cX9_digest 0 = .ok (.ldc2_w 316, 3) := by decide +kernel
theorem dX9_digest_3 : decode cX9_digest 3 = .ok (.lstore_n 1, 1) := by decide +kernel
theorem dX9_digest_4 : decode cX9_digest 4 = .ok (.iconst 0, 1) := by decide +kernel
theorem dX9_digest_5 : decode cX9_digest 5 = .ok (.istore_n 3, 1) := by decide +kernel
theorem dX9_digest_6 : decode cX9_digest 6 = .ok (.iload_n 3, 1) := by decide +kernel
theorem dX9_digest_7 : decode cX9_digest 7 = .ok (.bipush 10, 2) := by decide +kernel
theorem dX9_digest_9 : decode cX9_digest 9 = .ok (.if_icmp .ge 20, 3) := by decide +kernel
theorem dX9_digest_12 : decode cX9_digest 12 = .ok (.lload_n 1, 1) := by decide +kernel
theorem dX9_digest_13 : decode cX9_digest 13 = .ok (.aload_n 0, 1) := by decide +kernel
theorem dX9_digest_14 : decode cX9_digest 14 = .ok (.iload_n 3, 1) := by decide +kernel
theorem dX9_digest_15 : decode cX9_digest 15 = .ok (.invokevirtual 318, 3) := by decide +kernel
theorem dX9_digest_18 : decode cX9_digest 18 = .ok (.i2l, 1) := by decide +kernel
theorem dX9_digest_19 : decode cX9_digest 19 = .ok (.invokestatic 321, 3) := by decide +kernel
theorem dX9_digest_22 : decode cX9_digest 22 = .ok (.lstore_n 1, 1) := by decide +kernel
theorem dX9_digest_23 : decode cX9_digest 23 = .ok (.iinc 3 1, 3) := by decide +kernel
theorem dX9_digest_26 : decode cX9_digest 26 = .ok (.goto (-20), 3) := by decide +kernel
theorem dX9_digest_29 : decode cX9_digest 29 = .ok (.aload_n 0, 1) := by decide +kernel
theorem dX9_digest_30 : decode cX9_digest 30 = .ok (.lload_n 1, 1) := by decide +kernel
theorem dX9_digest_31 : decode cX9_digest 31 = .ok (.invokevirtual 324, 3) := by decide +kernel
theorem dX9_digest_34 : decode cX9_digest 34 = .ok (.lstore_n 1, 1) := by decide +kernel
theorem dX9_digest_35 : decode cX9_digest 35 = .ok (.aload_n 0, 1) := by decide +kernel
theorem dX9_digest_36 : decode cX9_digest 36 = .ok (.lload_n 1, 1) := by decide +kernel
theorem dX9_digest_37 : decode cX9_digest 37 = .ok (.invokevirtual 327, 3) := by decide +kernel
theorem dX9_digest_40 : decode cX9_digest 40 = .ok (.lstore_n 1, 1) := by decide +kernel
theorem dX9_digest_41 : decode cX9_digest 41 = .ok (.aload_n 0, 1) := by decide +kernel
theorem dX9_digest_42 : decode cX9_digest 42 = .ok (.lload_n 1, 1) := by decide +kernel
theorem dX9_digest_43 : decode cX9_digest 43 = .ok (.invokevirtual 330, 3) := by decide +kernel
theorem dX9_digest_46 : decode cX9_digest 46 = .ok (.lstore_n 1, 1) := by decide +kernel
theorem dX9_digest_47 : decode cX9_digest 47 = .ok (.aload_n 0, 1) := by decide +kernel
theorem dX9_digest_48 : decode cX9_digest 48 = .ok (.lload_n 1, 1) := by decide +kernel
theorem dX9_digest_49 : decode cX9_digest 49 = .ok (.invokevirtual 333, 3) := by decide +kernel
theorem dX9_digest_52 : decode cX9_digest 52 = .ok (.lstore_n 1, 1) := by decide +kernel
theorem dX9_digest_53 : decode cX9_digest 53 = .ok (.iconst 0, 1) := by decide +kernel
theorem dX9_digest_54 : decode cX9_digest 54 = .ok (.istore_n 3, 1) := by decide +kernel
theorem dX9_digest_55 : decode cX9_digest 55 = .ok (.iload_n 3, 1) := by decide +kernel
theorem dX9_digest_56 : decode cX9_digest 56 = .ok (.bipush 20, 2) := by decide +kernel
theorem dX9_digest_58 : decode cX9_digest 58 = .ok (.if_icmp .ge 20, 3) := by decide +kernel
theorem dX9_digest_61 : decode cX9_digest 61 = .ok (.lload_n 1, 1) := by decide +kernel
theorem dX9_digest_62 : decode cX9_digest 62 = .ok (.aload_n 0, 1) := by decide +kernel
theorem dX9_digest_63 : decode cX9_digest 63 = .ok (.iload_n 3, 1) := by decide +kernel
theorem dX9_digest_64 : decode cX9_digest 64 = .ok (.invokevirtual 336, 3) := by decide +kernel
theorem dX9_digest_67 : decode cX9_digest 67 = .ok (.i2l, 1) := by decide +kernel
theorem dX9_digest_68 : decode cX9_digest 68 = .ok (.invokestatic 321, 3) := by decide +kernel
theorem dX9_digest_71 : decode cX9_digest 71 = .ok (.lstore_n 1, 1) := by decide +kernel
theorem dX9_digest_72 : decode cX9_digest 72 = .ok (.iinc 3 1, 3) := by decide +kernel
theorem dX9_digest_75 : decode cX9_digest 75 = .ok (.goto (-20), 3) := by decide +kernel
theorem dX9_digest_78 : decode cX9_digest 78 = .ok (.iconst 0, 1) := by decide +kernel
theorem dX9_digest_79 : decode cX9_digest 79 = .ok (.istore_n 3, 1) := by decide +kernel
theorem dX9_digest_80 : decode cX9_digest 80 = .ok (.iload_n 3, 1) := by decide +kernel
theorem dX9_digest_81 : decode cX9_digest 81 = .ok (.aload_n 0, 1) := by decide +kernel
theorem dX9_digest_82 : decode cX9_digest 82 = .ok (.getfield 40, 3) := by decide +kernel
theorem dX9_digest_85 : decode cX9_digest 85 = .ok (.getfield 80, 3) := by decide +kernel
theorem dX9_digest_88 : decode cX9_digest 88 = .ok (.if_icmp .ge 23, 3) := by decide +kernel
theorem dX9_digest_91 : decode cX9_digest 91 = .ok (.lload_n 1, 1) := by decide +kernel
theorem dX9_digest_92 : decode cX9_digest 92 = .ok (.aload_n 0, 1) := by decide +kernel
theorem dX9_digest_93 : decode cX9_digest 93 = .ok (.getfield 40, 3) := by decide +kernel
theorem dX9_digest_96 : decode cX9_digest 96 = .ok (.iload_n 3, 1) := by decide +kernel
theorem dX9_digest_97 : decode cX9_digest 97 = .ok (.invokevirtual 86, 3) := by decide +kernel
theorem dX9_digest_100 : decode cX9_digest 100 = .ok (.i2l, 1) := by decide +kernel
theorem dX9_digest_101 : decode cX9_digest 101 = .ok (.invokestatic 321, 3) := by decide +kernel
theorem dX9_digest_104 : decode cX9_digest 104 = .ok (.lstore_n 1, 1) := by decide +kernel
theorem dX9_digest_105 : decode cX9_digest 105 = .ok (.iinc 3 1, 3) := by decide +kernel
theorem dX9_digest_108 : decode cX9_digest 108 = .ok (.goto (-28), 3) := by decide +kernel
theorem dX9_digest_111 : decode cX9_digest 111 = .ok (.iconst 0, 1) := by decide +kernel
theorem dX9_digest_112 : decode cX9_digest 112 = .ok (.istore_n 3, 1) := by decide +kernel
theorem dX9_digest_113 : decode cX9_digest 113 = .ok (.iload_n 3, 1) := by decide +kernel
theorem dX9_digest_114 : decode cX9_digest 114 = .ok (.bipush 9, 2) := by decide +kernel
theorem dX9_digest_116 : decode cX9_digest 116 = .ok (.if_icmp .ge 20, 3) := by decide +kernel
theorem dX9_digest_119 : decode cX9_digest 119 = .ok (.lload_n 1, 1) := by decide +kernel
theorem dX9_digest_120 : decode cX9_digest 120 = .ok (.aload_n 0, 1) := by decide +kernel
theorem dX9_digest_121 : decode cX9_digest 121 = .ok (.iload_n 3, 1) := by decide +kernel
theorem dX9_digest_122 : decode cX9_digest 122 = .ok (.invokevirtual 339, 3) := by decide +kernel
theorem dX9_digest_125 : decode cX9_digest 125 = .ok (.i2l, 1) := by decide +kernel
theorem dX9_digest_126 : decode cX9_digest 126 = .ok (.invokestatic 321, 3) := by decide +kernel
theorem dX9_digest_129 : decode cX9_digest 129 = .ok (.lstore_n 1, 1) := by decide +kernel
theorem dX9_digest_130 : decode cX9_digest 130 = .ok (.iinc 3 1, 3) := by decide +kernel
theorem dX9_digest_133 : decode cX9_digest 133 = .ok (.goto (-20), 3) := by decide +kernel
theorem dX9_digest_136 : decode cX9_digest 136 = .ok (.lload_n 1, 1) := by decide +kernel
theorem dX9_digest_137 : decode cX9_digest 137 = .ok (.lreturn, 1) := by decide +kernel
set_option maxRecDepth 20000 in
theorem ggX9_foldLatest_X9_latest : GoodIn wsX9_foldLatest wsX9_latest := goodIn_r _ [7, 8, 1, 2, 9, 10, 11, 12, 13, 14, 15, 16, 17, 18, 19, 20, 21, 22, 23, 24, 25, 26, 6, 27, 28, 29, 30, 31, 32, 33, 38, 39, 40, 41, 42, 43, 44, 45, 46, 47, 48, 49, 50, 51, 52, 53, 54, 55, 56, 57, 58, 59, 60, 61, 62, 63, 64, 65, 66, 67, 68] (by decide +kernel) (by decide +kernel)
set_option maxRecDepth 20000 in
theorem gX9_foldLatest_X9_latest : GoodIn wsX9_foldLatest (wsV RX9 342 RX9 yX9_latest wsX9_latest) := goodIn_app (goodIn_of _ (by decide +kernel)) ggX9_foldLatest_X9_latest
set_option maxRecDepth 20000 in
theorem ggX9_foldLatest_X9_folded : GoodIn wsX9_foldLatest wsX9_folded := goodIn_r _ [36, 37] (by decide +kernel) (by decide +kernel)
set_option maxRecDepth 20000 in
theorem gX9_foldLatest_X9_folded : GoodIn wsX9_foldLatest (va_wsS RX9 321 yX9_folded wsX9_folded) := goodIn_app (goodIn_of _ (by decide +kernel)) ggX9_foldLatest_X9_folded
theorem dX9_foldLatest_0 : decode cX9_foldLatest 0 = .ok (.aload_n 0, 1) := by decide +kernel
theorem dX9_foldLatest_1 : decode cX9_foldLatest 1 = .ok (.getfield 10, 3) := by decide +kernel
theorem dX9_foldLatest_4 : decode cX9_foldLatest 4 = .ok (.getfield 213, 3) := by decide +kernel
theorem dX9_foldLatest_7 : decode cX9_foldLatest 7 = .ok (.ifCond .ne 5, 3) := by decide +kernel
theorem dX9_foldLatest_10 : decode cX9_foldLatest 10 = .ok (.lload_n 1, 1) := by decide +kernel
theorem dX9_foldLatest_11 : decode cX9_foldLatest 11 = .ok (.lreturn, 1) := by decide +kernel
theorem dX9_foldLatest_12 : decode cX9_foldLatest 12 = .ok (.iconst 0, 1) := by decide +kernel
theorem dX9_foldLatest_13 : decode cX9_foldLatest 13 = .ok (.istore_n 3, 1) := by decide +kernel
theorem dX9_foldLatest_14 : decode cX9_foldLatest 14 = .ok (.iload_n 3, 1) := by decide +kernel
theorem dX9_foldLatest_15 : decode cX9_foldLatest 15 = .ok (.bipush 15, 2) := by decide +kernel
theorem dX9_foldLatest_17 : decode cX9_foldLatest 17 = .ok (.if_icmp .ge 20, 3) := by decide +kernel
theorem dX9_foldLatest_20 : decode cX9_foldLatest 20 = .ok (.lload_n 1, 1) := by decide +kernel
theorem dX9_foldLatest_21 : decode cX9_foldLatest 21 = .ok (.aload_n 0, 1) := by decide +kernel
theorem dX9_foldLatest_22 : decode cX9_foldLatest 22 = .ok (.iload_n 3, 1) := by decide +kernel
theorem dX9_foldLatest_23 : decode cX9_foldLatest 23 = .ok (.invokevirtual 342, 3) := by decide +kernel
theorem dX9_foldLatest_26 : decode cX9_foldLatest 26 = .ok (.i2l, 1) := by decide +kernel
theorem dX9_foldLatest_27 : decode cX9_foldLatest 27 = .ok (.invokestatic 321, 3) := by decide +kernel
theorem dX9_foldLatest_30 : decode cX9_foldLatest 30 = .ok (.lstore_n 1, 1) := by decide +kernel
theorem dX9_foldLatest_31 : decode cX9_foldLatest 31 = .ok (.iinc 3 1, 3) := by decide +kernel
theorem dX9_foldLatest_34 : decode cX9_foldLatest 34 = .ok (.goto (-20), 3) := by decide +kernel
theorem dX9_foldLatest_37 : decode cX9_foldLatest 37 = .ok (.lload_n 1, 1) := by decide +kernel
theorem dX9_foldLatest_38 : decode cX9_foldLatest 38 = .ok (.lreturn, 1) := by decide +kernel
set_option maxRecDepth 20000 in
theorem ggX9_foldReadings_X3_kept : GoodIn wsX9_foldReadings wsX3_kept := goodIn_r _ [6, 7, 8, 9, 10, 11, 42, 43, 44] (by decide +kernel) (by decide +kernel)
set_option maxRecDepth 20000 in
theorem gX9_foldReadings_X3_kept : GoodIn wsX9_foldReadings (wsV RX9 279 RX3 yX3_kept wsX3_kept) := goodIn_app (goodIn_of _ (by decide +kernel)) ggX9_foldReadings_X3_kept
set_option maxRecDepth 20000 in
theorem ggX9_foldReadings_X9_reading : GoodIn wsX9_foldReadings wsX9_reading := goodIn_r _ [16, 1, 17, 18, 2, 3, 4, 5, 6, 7, 8, 9, 10, 11, 19, 20, 21, 22, 23, 24, 29, 30, 31, 32, 33, 34, 35, 36, 37, 38, 39, 40, 41, 42, 43, 44] (by decide +kernel) (by decide +kernel)
set_option maxRecDepth 20000 in
theorem gX9_foldReadings_X9_reading : GoodIn wsX9_foldReadings (wsV RX9 345 RX9 yX9_reading wsX9_reading) := goodIn_app (goodIn_of _ (by decide +kernel)) ggX9_foldReadings_X9_reading
set_option maxRecDepth 20000 in
theorem ggX9_foldReadings_X9_folded : GoodIn wsX9_foldReadings wsX9_folded := goodIn_r _ [27, 28] (by decide +kernel) (by decide +kernel)
set_option maxRecDepth 20000 in
theorem gX9_foldReadings_X9_folded : GoodIn wsX9_foldReadings (va_wsS RX9 321 yX9_folded wsX9_folded) := goodIn_app (goodIn_of _ (by decide +kernel)) ggX9_foldReadings_X9_folded
theorem dX9_foldReadings_0 : decode cX9_foldReadings 0 = .ok (.aload_n 0, 1) := by decide +kernel
theorem dX9_foldReadings_1 : decode cX9_foldReadings 1 = .ok (.getfield 33, 3) := by decide +kernel
theorem dX9_foldReadings_4 : decode cX9_foldReadings 4 = .ok (.invokevirtual 279, 3) := by decide +kernel
theorem dX9_foldReadings_7 : decode cX9_foldReadings 7 = .ok (.istore_n 3, 1) := by decide +kernel
theorem dX9_foldReadings_8 : decode cX9_foldReadings 8 = .ok (.iconst 0, 1) := by decide +kernel
theorem dX9_foldReadings_9 : decode cX9_foldReadings 9 = .ok (.istore 4, 2) := by decide +kernel
theorem dX9_foldReadings_11 : decode cX9_foldReadings 11 = .ok (.iload 4, 2) := by decide +kernel
theorem dX9_foldReadings_13 : decode cX9_foldReadings 13 = .ok (.iload_n 3, 1) := by decide +kernel
theorem dX9_foldReadings_14 : decode cX9_foldReadings 14 = .ok (.if_icmp .ge 39, 3) := by decide +kernel
theorem dX9_foldReadings_17 : decode cX9_foldReadings 17 = .ok (.iconst 0, 1) := by decide +kernel
theorem dX9_foldReadings_18 : decode cX9_foldReadings 18 = .ok (.istore 5, 2) := by decide +kernel
theorem dX9_foldReadings_20 : decode cX9_foldReadings 20 = .ok (.iload 5, 2) := by decide +kernel
theorem dX9_foldReadings_22 : decode cX9_foldReadings 22 = .ok (.bipush 8, 2) := by decide +kernel
theorem dX9_foldReadings_24 : decode cX9_foldReadings 24 = .ok (.if_icmp .ge 23, 3) := by decide +kernel
theorem dX9_foldReadings_27 : decode cX9_foldReadings 27 = .ok (.lload_n 1, 1) := by decide +kernel
theorem dX9_foldReadings_28 : decode cX9_foldReadings 28 = .ok (.aload_n 0, 1) := by decide +kernel
theorem dX9_foldReadings_29 : decode cX9_foldReadings 29 = .ok (.iload 4, 2) := by decide +kernel
theorem dX9_foldReadings_31 : decode cX9_foldReadings 31 = .ok (.iload 5, 2) := by decide +kernel
theorem dX9_foldReadings_33 : decode cX9_foldReadings 33 = .ok (.invokevirtual 345, 3) := by decide +kernel
theorem dX9_foldReadings_36 : decode cX9_foldReadings 36 = .ok (.i2l, 1) := by decide +kernel
theorem dX9_foldReadings_37 : decode cX9_foldReadings 37 = .ok (.invokestatic 321, 3) := by decide +kernel
theorem dX9_foldReadings_40 : decode cX9_foldReadings 40 = .ok (.lstore_n 1, 1) := by decide +kernel
theorem dX9_foldReadings_41 : decode cX9_foldReadings 41 = .ok (.iinc 5 1, 3) := by decide +kernel
theorem dX9_foldReadings_44 : decode cX9_foldReadings 44 = .ok (.goto (-24), 3) := by decide +kernel
theorem dX9_foldReadings_47 : decode cX9_foldReadings 47 = .ok (.iinc 4 1, 3) := by decide +kernel
theorem dX9_foldReadings_50 : decode cX9_foldReadings 50 = .ok (.goto (-39), 3) := by decide +kernel
theorem dX9_foldReadings_53 : decode cX9_foldReadings 53 = .ok (.lload_n 1, 1) := by decide +kernel
theorem dX9_foldReadings_54 : decode cX9_foldReadings 54 = .ok (.lreturn, 1) := by decide +kernel
set_option maxRecDepth 20000 in
theorem ggX9_foldFilter_X9_filter : GoodIn wsX9_foldFilter wsX9_filter := goodIn_r _ [7, 1, 8, 2, 9, 10, 11, 12, 13, 14, 15, 16, 17, 18, 19, 20, 21, 22, 23, 6, 24, 25, 26, 27, 28, 29, 30, 31, 32, 33, 34, 35, 36, 37, 38, 39, 50, 51, 52, 53, 54, 55, 56, 57, 58, 59, 60, 61, 62, 63, 64, 65, 66, 67] (by decide +kernel) (by decide +kernel)
set_option maxRecDepth 20000 in
theorem gX9_foldFilter_X9_filter : GoodIn wsX9_foldFilter (wsV RX9 348 RX9 yX9_filter wsX9_filter) := goodIn_app (goodIn_of _ (by decide +kernel)) ggX9_foldFilter_X9_filter
set_option maxRecDepth 20000 in
theorem ggX9_foldFilter_X9_folded : GoodIn wsX9_foldFilter wsX9_folded := goodIn_r _ [42, 43] (by decide +kernel) (by decide +kernel)
set_option maxRecDepth 20000 in
theorem gX9_foldFilter_X9_folded : GoodIn wsX9_foldFilter (va_wsS RX9 321 yX9_folded wsX9_folded) := goodIn_app (goodIn_of _ (by decide +kernel)) ggX9_foldFilter_X9_folded
set_option maxRecDepth 20000 in
theorem ggX9_foldFilter_X9_held : GoodIn wsX9_foldFilter wsX9_held := goodIn_r _ [47, 1, 2, 48, 10, 8, 49, 18, 19, 14, 20, 16, 21, 50, 51, 52, 53, 54, 55, 56, 57, 58, 59, 60, 61, 62, 63, 64, 65, 66, 67] (by decide +kernel) (by decide +kernel)
set_option maxRecDepth 20000 in
theorem gX9_foldFilter_X9_held : GoodIn wsX9_foldFilter (wsV RX9 351 RX9 yX9_held wsX9_held) := goodIn_app (goodIn_of _ (by decide +kernel)) ggX9_foldFilter_X9_held
theorem dX9_foldFilter_0 : decode cX9_foldFilter 0 = .ok (.iconst 0, 1) := by decide +kernel
theorem dX9_foldFilter_1 : decode cX9_foldFilter 1 = .ok (.istore_n 3, 1) := by decide +kernel
theorem dX9_foldFilter_2 : decode cX9_foldFilter 2 = .ok (.iload_n 3, 1) := by decide +kernel
theorem dX9_foldFilter_3 : decode cX9_foldFilter 3 = .ok (.bipush 6, 2) := by decide +kernel
theorem dX9_foldFilter_5 : decode cX9_foldFilter 5 = .ok (.if_icmp .ge 20, 3) := by decide +kernel
theorem dX9_foldFilter_8 : decode cX9_foldFilter 8 = .ok (.lload_n 1, 1) := by decide +kernel
theorem dX9_foldFilter_9 : decode cX9_foldFilter 9 = .ok (.aload_n 0, 1) := by decide +kernel
theorem dX9_foldFilter_10 : decode cX9_foldFilter 10 = .ok (.iload_n 3, 1) := by decide +kernel
theorem dX9_foldFilter_11 : decode cX9_foldFilter 11 = .ok (.invokevirtual 348, 3) := by decide +kernel
theorem dX9_foldFilter_14 : decode cX9_foldFilter 14 = .ok (.i2l, 1) := by decide +kernel
theorem dX9_foldFilter_15 : decode cX9_foldFilter 15 = .ok (.invokestatic 321, 3) := by decide +kernel
theorem dX9_foldFilter_18 : decode cX9_foldFilter 18 = .ok (.lstore_n 1, 1) := by decide +kernel
theorem dX9_foldFilter_19 : decode cX9_foldFilter 19 = .ok (.iinc 3 1, 3) := by decide +kernel
theorem dX9_foldFilter_22 : decode cX9_foldFilter 22 = .ok (.goto (-20), 3) := by decide +kernel
theorem dX9_foldFilter_25 : decode cX9_foldFilter 25 = .ok (.iconst 0, 1) := by decide +kernel
theorem dX9_foldFilter_26 : decode cX9_foldFilter 26 = .ok (.istore_n 3, 1) := by decide +kernel
theorem dX9_foldFilter_27 : decode cX9_foldFilter 27 = .ok (.iload_n 3, 1) := by decide +kernel
theorem dX9_foldFilter_28 : decode cX9_foldFilter 28 = .ok (.aload_n 0, 1) := by decide +kernel
theorem dX9_foldFilter_29 : decode cX9_foldFilter 29 = .ok (.getfield 26, 3) := by decide +kernel
theorem dX9_foldFilter_32 : decode cX9_foldFilter 32 = .ok (.getfield 204, 3) := by decide +kernel
theorem dX9_foldFilter_35 : decode cX9_foldFilter 35 = .ok (.if_icmp .ge 37, 3) := by decide +kernel
theorem dX9_foldFilter_38 : decode cX9_foldFilter 38 = .ok (.iconst 0, 1) := by decide +kernel
theorem dX9_foldFilter_39 : decode cX9_foldFilter 39 = .ok (.istore 4, 2) := by decide +kernel
theorem dX9_foldFilter_41 : decode cX9_foldFilter 41 = .ok (.iload 4, 2) := by decide +kernel
theorem dX9_foldFilter_43 : decode cX9_foldFilter 43 = .ok (.iconst 2, 1) := by decide +kernel
theorem dX9_foldFilter_44 : decode cX9_foldFilter 44 = .ok (.if_icmp .ge 22, 3) := by decide +kernel
theorem dX9_foldFilter_47 : decode cX9_foldFilter 47 = .ok (.lload_n 1, 1) := by decide +kernel
theorem dX9_foldFilter_48 : decode cX9_foldFilter 48 = .ok (.aload_n 0, 1) := by decide +kernel
theorem dX9_foldFilter_49 : decode cX9_foldFilter 49 = .ok (.iload_n 3, 1) := by decide +kernel
theorem dX9_foldFilter_50 : decode cX9_foldFilter 50 = .ok (.iload 4, 2) := by decide +kernel
theorem dX9_foldFilter_52 : decode cX9_foldFilter 52 = .ok (.invokevirtual 351, 3) := by decide +kernel
theorem dX9_foldFilter_55 : decode cX9_foldFilter 55 = .ok (.i2l, 1) := by decide +kernel
theorem dX9_foldFilter_56 : decode cX9_foldFilter 56 = .ok (.invokestatic 321, 3) := by decide +kernel
theorem dX9_foldFilter_59 : decode cX9_foldFilter 59 = .ok (.lstore_n 1, 1) := by decide +kernel
theorem dX9_foldFilter_60 : decode cX9_foldFilter 60 = .ok (.iinc 4 1, 3) := by decide +kernel
theorem dX9_foldFilter_63 : decode cX9_foldFilter 63 = .ok (.goto (-22), 3) := by decide +kernel
theorem dX9_foldFilter_66 : decode cX9_foldFilter 66 = .ok (.iinc 3 1, 3) := by decide +kernel
theorem dX9_foldFilter_69 : decode cX9_foldFilter 69 = .ok (.goto (-42), 3) := by decide +kernel
theorem dX9_foldFilter_72 : decode cX9_foldFilter 72 = .ok (.lload_n 1, 1) := by decide +kernel
theorem dX9_foldFilter_73 : decode cX9_foldFilter 73 = .ok (.lreturn, 1) := by decide +kernel
set_option maxRecDepth 20000 in
theorem ggX9_foldZeros_X8_has : GoodIn wsX9_foldZeros wsX8_has := goodIn_r _ [6, 7, 8, 9, 5, 10, 43, 44, 45] (by decide +kernel) (by decide +kernel)
set_option maxRecDepth 20000 in
theorem gX9_foldZeros_X8_has : GoodIn wsX9_foldZeros (wsV RX9 301 RX8 yX8_has wsX8_has) := goodIn_app (goodIn_of _ (by decide +kernel)) ggX9_foldZeros_X8_has
set_option maxRecDepth 20000 in
theorem ggX9_foldZeros_X9_zero : GoodIn wsX9_foldZeros wsX9_zero := goodIn_r _ [15, 16, 1, 17, 2, 3, 4, 5, 6, 7, 8, 9, 10, 18, 19, 20, 21, 22, 23, 24, 25, 30, 31, 32, 33, 34, 35, 36, 37, 38, 39, 40, 41, 42, 43, 44, 45] (by decide +kernel) (by decide +kernel)
set_option maxRecDepth 20000 in
theorem gX9_foldZeros_X9_zero : GoodIn wsX9_foldZeros (wsV RX9 354 RX9 yX9_zero wsX9_zero) := goodIn_app (goodIn_of _ (by decide +kernel)) ggX9_foldZeros_X9_zero
set_option maxRecDepth 20000 in
theorem ggX9_foldZeros_X9_folded : GoodIn wsX9_foldZeros wsX9_folded := goodIn_r _ [28, 29] (by decide +kernel) (by decide +kernel)
set_option maxRecDepth 20000 in
theorem gX9_foldZeros_X9_folded : GoodIn wsX9_foldZeros (va_wsS RX9 321 yX9_folded wsX9_folded) := goodIn_app (goodIn_of _ (by decide +kernel)) ggX9_foldZeros_X9_folded
theorem dX9_foldZeros_0 : decode cX9_foldZeros 0 = .ok (.iconst 0, 1) := by decide +kernel
theorem dX9_foldZeros_1 : decode cX9_foldZeros 1 = .ok (.istore_n 3, 1) := by decide +kernel
theorem dX9_foldZeros_2 : decode cX9_foldZeros 2 = .ok (.iload_n 3, 1) := by decide +kernel
theorem dX9_foldZeros_3 : decode cX9_foldZeros 3 = .ok (.iconst 3, 1) := by decide +kernel
theorem dX9_foldZeros_4 : decode cX9_foldZeros 4 = .ok (.if_icmp .ge 48, 3) := by decide +kernel
theorem dX9_foldZeros_7 : decode cX9_foldZeros 7 = .ok (.aload_n 0, 1) := by decide +kernel
theorem dX9_foldZeros_8 : decode cX9_foldZeros 8 = .ok (.getfield 19, 3) := by decide +kernel
theorem dX9_foldZeros_11 : decode cX9_foldZeros 11 = .ok (.iload_n 3, 1) := by decide +kernel
theorem dX9_foldZeros_12 : decode cX9_foldZeros 12 = .ok (.invokevirtual 301, 3) := by decide +kernel
theorem dX9_foldZeros_15 : decode cX9_foldZeros 15 = .ok (.ifCond .eq 31, 3) := by decide +kernel
theorem dX9_foldZeros_18 : decode cX9_foldZeros 18 = .ok (.iconst 0, 1) := by decide +kernel
theorem dX9_foldZeros_19 : decode cX9_foldZeros 19 = .ok (.istore 4, 2) := by decide +kernel
theorem dX9_foldZeros_21 : decode cX9_foldZeros 21 = .ok (.iload 4, 2) := by decide +kernel
theorem dX9_foldZeros_23 : decode cX9_foldZeros 23 = .ok (.iconst 4, 1) := by decide +kernel
theorem dX9_foldZeros_24 : decode cX9_foldZeros 24 = .ok (.if_icmp .ge 22, 3) := by decide +kernel
theorem dX9_foldZeros_27 : decode cX9_foldZeros 27 = .ok (.lload_n 1, 1) := by decide +kernel
theorem dX9_foldZeros_28 : decode cX9_foldZeros 28 = .ok (.aload_n 0, 1) := by decide +kernel
theorem dX9_foldZeros_29 : decode cX9_foldZeros 29 = .ok (.iload_n 3, 1) := by decide +kernel
theorem dX9_foldZeros_30 : decode cX9_foldZeros 30 = .ok (.iload 4, 2) := by decide +kernel
theorem dX9_foldZeros_32 : decode cX9_foldZeros 32 = .ok (.invokevirtual 354, 3) := by decide +kernel
theorem dX9_foldZeros_35 : decode cX9_foldZeros 35 = .ok (.i2l, 1) := by decide +kernel
theorem dX9_foldZeros_36 : decode cX9_foldZeros 36 = .ok (.invokestatic 321, 3) := by decide +kernel
theorem dX9_foldZeros_39 : decode cX9_foldZeros 39 = .ok (.lstore_n 1, 1) := by decide +kernel
theorem dX9_foldZeros_40 : decode cX9_foldZeros 40 = .ok (.iinc 4 1, 3) := by decide +kernel
theorem dX9_foldZeros_43 : decode cX9_foldZeros 43 = .ok (.goto (-22), 3) := by decide +kernel
theorem dX9_foldZeros_46 : decode cX9_foldZeros 46 = .ok (.iinc 3 1, 3) := by decide +kernel
theorem dX9_foldZeros_49 : decode cX9_foldZeros 49 = .ok (.goto (-47), 3) := by decide +kernel
theorem dX9_foldZeros_52 : decode cX9_foldZeros 52 = .ok (.lload_n 1, 1) := by decide +kernel
theorem dX9_foldZeros_53 : decode cX9_foldZeros 53 = .ok (.lreturn, 1) := by decide +kernel
theorem dX9_folded_0 : decode cX9_folded 0 = .ok (.ldc2_w 357, 3) := by decide +kernel
theorem dX9_folded_3 : decode cX9_folded 3 = .ok (.lload_n 0, 1) := by decide +kernel
theorem dX9_folded_4 : decode cX9_folded 4 = .ok (.lmul, 1) := by decide +kernel
theorem dX9_folded_5 : decode cX9_folded 5 = .ok (.lload_n 2, 1) := by decide +kernel
theorem dX9_folded_6 : decode cX9_folded 6 = .ok (.ladd, 1) := by decide +kernel
theorem dX9_folded_7 : decode cX9_folded 7 = .ok (.lreturn, 1) := by decide +kernel
theorem dX9_flag_0 : decode cX9_flag 0 = .ok (.iload_n 0, 1) := by decide +kernel
theorem dX9_flag_1 : decode cX9_flag 1 = .ok (.ifCond .eq 7, 3) := by decide +kernel
theorem dX9_flag_4 : decode cX9_flag 4 = .ok (.iconst 1, 1) := by decide +kernel
theorem dX9_flag_5 : decode cX9_flag 5 = .ok (.goto 4, 3) := by decide +kernel
theorem dX9_flag_8 : decode cX9_flag 8 = .ok (.iconst 0, 1) := by decide +kernel
theorem dX9_flag_9 : decode cX9_flag 9 = .ok (.ireturn, 1) := by decide +kernel
theorem dX9_within_0 : decode cX9_within 0 = .ok (.lload_n 0, 1) := by decide +kernel
theorem dX9_within_1 : decode cX9_within 1 = .ok (.lload_n 2, 1) := by decide +kernel
theorem dX9_within_2 : decode cX9_within 2 = .ok (.lneg, 1) := by decide +kernel
theorem dX9_within_3 : decode cX9_within 3 = .ok (.lcmp, 1) := by decide +kernel
theorem dX9_within_4 : decode cX9_within 4 = .ok (.ifCond .lt 13, 3) := by decide +kernel
theorem dX9_within_7 : decode cX9_within 7 = .ok (.lload_n 0, 1) := by decide +kernel
theorem dX9_within_8 : decode cX9_within 8 = .ok (.lload_n 2, 1) := by decide +kernel
theorem dX9_within_9 : decode cX9_within 9 = .ok (.lcmp, 1) := by decide +kernel
theorem dX9_within_10 : decode cX9_within 10 = .ok (.ifCond .gt 7, 3) := by decide +kernel
theorem dX9_within_13 : decode cX9_within 13 = .ok (.iconst 1, 1) := by decide +kernel
theorem dX9_within_14 : decode cX9_within 14 = .ok (.goto 4, 3) := by decide +kernel
theorem dX9_within_17 : decode cX9_within 17 = .ok (.iconst 0, 1) := by decide +kernel
theorem dX9_within_18 : decode cX9_within 18 = .ok (.ireturn, 1) := by decide +kernel
