set_option maxRecDepth 20000 in
theorem lwk_1 : ∀ w ∈ wsL_law_r1, w ∈ lw_tbl := fun w h => (goodIn_r (big := lw_tbl) wsL_law_r1 [69, 70, 57, 755, 756, 67, 71, 72, 73, 74, 75, 76, 77, 78, 58, 298, 203, 204, 62, 299, 220, 221, 63, 300] (by decide +kernel) (by decide +kernel) w h).1
set_option maxRecDepth 20000 in
theorem lwk_2 : ∀ w ∈ wsL_law_r2, w ∈ lw_tbl := fun w h => (goodIn_r (big := lw_tbl) wsL_law_r2 [246, 247, 64, 301, 264, 265, 65, 302, 278, 279, 66, 303, 304, 305, 306, 307, 308, 309, 310, 80, 81, 82, 83, 84] (by decide +kernel) (by decide +kernel) w h).1
set_option maxRecDepth 20000 in
theorem lwk_3 : ∀ w ∈ wsL_law_r3, w ∈ lw_tbl := fun w h => (goodIn_r (big := lw_tbl) wsL_law_r3 [59, 174, 110, 111, 60, 176, 130, 131, 61, 178, 180, 182, 184, 186, 86, 87, 88, 89, 91, 93, 95, 97, 113, 114] (by decide +kernel) (by decide +kernel) w h).1
set_option maxRecDepth 20000 in
theorem lwk_4 : ∀ w ∈ wsL_law_r4, w ∈ lw_tbl := fun w h => (goodIn_r (big := lw_tbl) wsL_law_r4 [115, 116, 119, 121, 133, 134, 135, 136, 137, 138, 140, 141, 142, 143, 145, 147, 148, 173, 149, 206, 207, 208, 219, 209] (by decide +kernel) (by decide +kernel) w h).1
set_option maxRecDepth 20000 in
theorem lwk_5 : ∀ w ∈ wsL_law_r5, w ∈ lw_tbl := fun w h => (goodIn_r (big := lw_tbl) wsL_law_r5 [210, 211, 223, 224, 225, 226, 227, 229, 231, 233, 249, 250, 251, 252, 253, 255, 267, 268, 269, 270, 271, 281, 282, 283] (by decide +kernel) (by decide +kernel) w h).1
set_option maxRecDepth 20000 in
theorem lwk_6 : ∀ w ∈ wsL_law_r6, w ∈ lw_tbl := fun w h => (goodIn_r (big := lw_tbl) wsL_law_r6 [284, 285, 286, 287, 757, 758, 759, 760, 765, 768, 773, 774, 775, 781, 788, 789, 790, 792, 794, 804, 338, 339, 340, 341] (by decide +kernel) (by decide +kernel) w h).1
set_option maxRecDepth 20000 in
theorem lwk_7 : ∀ w ∈ wsL_law_r7, w ∈ lw_tbl := fun w h => (goodIn_r (big := lw_tbl) wsL_law_r7 [342, 347, 272, 343, 344, 345, 346, 909, 910, 911, 912, 916, 803, 917, 913, 914, 915, 348, 349, 350, 351, 918, 919, 920] (by decide +kernel) (by decide +kernel) w h).1
set_option maxRecDepth 20000 in
theorem lwk_8 : ∀ w ∈ wsL_law_r8, w ∈ lw_tbl := fun w h => (goodIn_r (big := lw_tbl) wsL_law_r8 [921, 352, 353, 354, 355, 356, 357, 358, 359, 360, 361, 362, 363, 364, 365, 366, 367, 368, 370, 0, 371, 372, 373, 374] (by decide +kernel) (by decide +kernel) w h).1
set_option maxRecDepth 20000 in
theorem lwk_9 : ∀ w ∈ wsL_law_r9, w ∈ lw_tbl := fun w h => (goodIn_r (big := lw_tbl) wsL_law_r9 [375, 376, 377, 379, 1, 380, 381, 382, 383, 384, 385, 387, 2, 388, 389, 390, 392, 3, 393, 394, 395, 396, 397, 398] (by decide +kernel) (by decide +kernel) w h).1
set_option maxRecDepth 20000 in
theorem lwk_10 : ∀ w ∈ wsL_law_r10, w ∈ lw_tbl := fun w h => (goodIn_r (big := lw_tbl) wsL_law_r10 [399, 400, 401, 922, 923, 924, 925, 926, 928, 23, 929, 805, 930, 932, 24, 933, 806, 808, 934, 936, 25, 937, 807, 938] (by decide +kernel) (by decide +kernel) w h).1
set_option maxRecDepth 20000 in
theorem lwk_11 : ∀ w ∈ wsL_law_r11, w ∈ lw_tbl := fun w h => (goodIn_r (big := lw_tbl) wsL_law_r11 [939, 940, 941, 943, 26, 944, 945, 946, 947, 948, 949, 950, 952, 27, 953, 954, 955, 956, 957, 958, 960, 28, 961, 767] (by decide +kernel) (by decide +kernel) w h).1
set_option maxRecDepth 20000 in
theorem lwk_12 : ∀ w ∈ wsL_law_r12, w ∈ lw_tbl := fun w h => (goodIn_r (big := lw_tbl) wsL_law_r12 [776, 761, 962, 964, 29, 965, 791, 966, 968, 30, 969, 970, 972, 31, 973, 795, 783, 784, 995, 1040, 771, 772, 1012, 796] (by decide +kernel) (by decide +kernel) w h).1
set_option maxRecDepth 20000 in
theorem lwk_13 : ∀ w ∈ wsL_law_r13, w ∈ lw_tbl := fun w h => (goodIn_r (big := lw_tbl) wsL_law_r13 [974, 976, 32, 977, 1030, 1031, 800, 799, 978, 980, 33, 981, 777, 786, 787, 778, 779, 780, 782, 785, 1019, 769, 770, 797] (by decide +kernel) (by decide +kernel) w h).1
set_option maxRecDepth 20000 in
theorem lwk_14 : ∀ w ∈ wsL_law_r14, w ∈ lw_tbl := fun w h => (goodIn_r (big := lw_tbl) wsL_law_r14 [798, 982, 984, 34, 985, 766, 986, 988, 35, 989, 1017, 1018, 990, 992, 36, 993, 994, 996, 998, 37, 999, 1000, 764, 1013] (by decide +kernel) (by decide +kernel) w h).1
set_option maxRecDepth 20000 in
theorem lwk_15 : ∀ w ∈ wsL_law_r15, w ∈ lw_tbl := fun w h => (goodIn_r (big := lw_tbl) wsL_law_r15 [1014, 1015, 1016, 1001, 1003, 38, 1004, 762, 1005, 1007, 39, 1008, 763, 1009, 1010, 1011, 1020, 1022, 40, 1023, 1024, 1025, 1026, 1027] (by decide +kernel) (by decide +kernel) w h).1
set_option maxRecDepth 20000 in
theorem lwk_16 : ∀ w ∈ wsL_law_r16, w ∈ lw_tbl := fun w h => (goodIn_r (big := lw_tbl) wsL_law_r16 [1028, 1029, 1032, 1034, 41, 1035, 1036, 1038, 42, 1039, 1041, 1043, 43, 1044, 801, 1045, 1047, 44, 1048, 1049, 1051, 45, 1052, 793] (by decide +kernel) (by decide +kernel) w h).1
set_option maxRecDepth 20000 in
theorem lwk_17 : ∀ w ∈ wsL_law_r17, w ∈ lw_tbl := fun w h => (goodIn_r (big := lw_tbl) wsL_law_r17 [402, 403, 404, 405, 408, 288, 406, 407, 409, 410, 412, 4, 413, 414, 416, 5, 417, 185, 179, 139, 146, 177, 118, 183] (by decide +kernel) (by decide +kernel) w h).1
set_option maxRecDepth 20000 in
theorem lwk_18 : ∀ w ∈ wsL_law_r18, w ∈ lw_tbl := fun w h => (goodIn_r (big := lw_tbl) wsL_law_r18 [418, 420, 6, 421, 422, 423, 424, 425, 117, 144, 426, 427, 428, 429, 430, 431, 432, 433, 434, 441, 435, 437, 7, 438] (by decide +kernel) (by decide +kernel) w h).1
set_option maxRecDepth 20000 in
theorem lwk_19 : ∀ w ∈ wsL_law_r19, w ∈ lw_tbl := fun w h => (goodIn_r (big := lw_tbl) wsL_law_r19 [442, 443, 444, 445, 446, 447, 448, 449, 450, 452, 8, 453, 454, 455, 456, 457, 458, 459, 460, 461, 462, 463, 464, 465] (by decide +kernel) (by decide +kernel) w h).1
set_option maxRecDepth 20000 in
theorem lwk_20 : ∀ w ∈ wsL_law_r20, w ∈ lw_tbl := fun w h => (goodIn_r (big := lw_tbl) wsL_law_r20 [466, 467, 468, 469, 470, 471, 472, 473, 474, 475, 476, 477, 478, 68, 479, 480, 481, 482, 483, 484, 485, 486, 487, 490] (by decide +kernel) (by decide +kernel) w h).1
set_option maxRecDepth 20000 in
theorem lwk_21 : ∀ w ∈ wsL_law_r21, w ∈ lw_tbl := fun w h => (goodIn_r (big := lw_tbl) wsL_law_r21 [492, 9, 493, 494, 495, 496, 497, 498, 499, 500, 501, 502, 503, 504, 505, 506, 507, 509, 10, 510, 511, 512, 181, 513] (by decide +kernel) (by decide +kernel) w h).1
set_option maxRecDepth 20000 in
theorem lwk_22 : ∀ w ∈ wsL_law_r22, w ∈ lw_tbl := fun w h => (goodIn_r (big := lw_tbl) wsL_law_r22 [515, 11, 516, 517, 518, 520, 12, 521, 254, 522, 523, 524, 525, 526, 527, 528, 529, 530, 531, 532, 533, 534, 535, 536] (by decide +kernel) (by decide +kernel) w h).1
set_option maxRecDepth 20000 in
theorem lwk_23 : ∀ w ∈ wsL_law_r23, w ∈ lw_tbl := fun w h => (goodIn_r (big := lw_tbl) wsL_law_r23 [537, 538, 539, 540, 541, 543, 13, 544, 546, 545, 547, 549, 14, 550, 551, 552, 553, 554, 555, 556, 565, 566, 557, 558] (by decide +kernel) (by decide +kernel) w h).1
set_option maxRecDepth 20000 in
theorem lwk_24 : ∀ w ∈ wsL_law_r24, w ∈ lw_tbl := fun w h => (goodIn_r (big := lw_tbl) wsL_law_r24 [559, 560, 561, 562, 563, 564, 567, 569, 15, 570, 571, 572, 573, 574, 579, 575, 577, 16, 578, 581, 582, 583, 585, 17] (by decide +kernel) (by decide +kernel) w h).1
set_option maxRecDepth 20000 in
theorem lwk_25 : ∀ w ∈ wsL_law_r25, w ∈ lw_tbl := fun w h => (goodIn_r (big := lw_tbl) wsL_law_r25 [586, 232, 175, 90, 587, 588, 589, 590, 1053, 1054, 1055, 1056, 1057, 802, 591, 592, 593, 594, 595, 596, 597, 598, 1058, 1059] (by decide +kernel) (by decide +kernel) w h).1
set_option maxRecDepth 20000 in
theorem lwk_26 : ∀ w ∈ wsL_law_r26, w ∈ lw_tbl := fun w h => (goodIn_r (big := lw_tbl) wsL_law_r26 [1060, 1061, 599, 600, 601, 602, 603, 92, 94, 1062, 1063, 1064, 1065, 1066, 604, 605, 606, 607, 96, 1067, 1068, 1069, 1070, 608] (by decide +kernel) (by decide +kernel) w h).1
set_option maxRecDepth 20000 in
theorem lwk_27 : ∀ w ∈ wsL_law_r27, w ∈ lw_tbl := fun w h => (goodIn_r (big := lw_tbl) wsL_law_r27 [609, 610, 611, 98, 1071, 1072, 1073, 1074, 612, 613, 614, 615, 616, 617, 120, 122, 1075, 1076, 1077, 1078, 618, 619, 620, 621] (by decide +kernel) (by decide +kernel) w h).1
set_option maxRecDepth 20000 in
theorem lwk_28 : ∀ w ∈ wsL_law_r28, w ∈ lw_tbl := fun w h => (goodIn_r (big := lw_tbl) wsL_law_r28 [1079, 1080, 1081, 1082, 1083, 1084, 622, 623, 624, 625, 1103, 1104, 1105, 1106, 626, 627, 628, 629, 630, 1089, 1090, 1091, 1092, 631] (by decide +kernel) (by decide +kernel) w h).1
set_option maxRecDepth 20000 in
theorem lwk_29 : ∀ w ∈ wsL_law_r29, w ∈ lw_tbl := fun w h => (goodIn_r (big := lw_tbl) wsL_law_r29 [632, 633, 634, 639, 635, 636, 637, 638, 1093, 1094, 1095, 1096, 1097, 1098, 1099, 1101, 46, 1102, 640, 641, 642, 643, 228, 644] (by decide +kernel) (by decide +kernel) w h).1
set_option maxRecDepth 20000 in
theorem lwk_30 : ∀ w ∈ wsL_law_r30, w ∈ lw_tbl := fun w h => (goodIn_r (big := lw_tbl) wsL_law_r30 [645, 646, 647, 1107, 1108, 1109, 1110, 648, 649, 650, 651, 652, 653, 654, 655, 657, 658, 660, 18, 661, 662, 1111, 1112, 1113] (by decide +kernel) (by decide +kernel) w h).1
set_option maxRecDepth 20000 in
theorem lwk_31 : ∀ w ∈ wsL_law_r31, w ∈ lw_tbl := fun w h => (goodIn_r (big := lw_tbl) wsL_law_r31 [1114, 1115, 1117, 47, 1118, 663, 664, 665, 666, 672, 667, 668, 669, 670, 671, 673, 674, 675, 676, 677, 1119, 1120, 1121, 1122] (by decide +kernel) (by decide +kernel) w h).1
set_option maxRecDepth 20000 in
theorem lwk_32 : ∀ w ∈ wsL_law_r32, w ∈ lw_tbl := fun w h => (goodIn_r (big := lw_tbl) wsL_law_r32 [1123, 678, 679, 680, 681, 230, 682, 683, 684, 685, 686, 687, 688, 689, 690, 691, 692, 1124, 1125, 1126, 1127, 1128, 1130, 48] (by decide +kernel) (by decide +kernel) w h).1
set_option maxRecDepth 20000 in
theorem lwk_33 : ∀ w ∈ wsL_law_r33, w ∈ lw_tbl := fun w h => (goodIn_r (big := lw_tbl) wsL_law_r33 [1131, 1132, 1134, 49, 1135, 693, 694, 695, 696, 697, 1136, 1137, 1138, 1139, 1140, 1142, 50, 1143, 698, 699, 700, 701, 1144, 1145] (by decide +kernel) (by decide +kernel) w h).1
set_option maxRecDepth 20000 in
theorem lwk_34 : ∀ w ∈ wsL_law_r34, w ∈ lw_tbl := fun w h => (goodIn_r (big := lw_tbl) wsL_law_r34 [1146, 1147, 1148, 1150, 51, 1151, 702, 703, 704, 705, 706, 707, 708, 709, 710, 711, 712, 1152, 1153, 1154, 1155, 1156, 1158, 52] (by decide +kernel) (by decide +kernel) w h).1
set_option maxRecDepth 20000 in
theorem lwk_35 : ∀ w ∈ wsL_law_r35, w ∈ lw_tbl := fun w h => (goodIn_r (big := lw_tbl) wsL_law_r35 [1159, 713, 714, 715, 716, 717, 1085, 1086, 1087, 1088, 718, 719, 720, 721, 256, 187, 234, 1160, 1161, 1162, 1163, 1164, 1166, 53] (by decide +kernel) (by decide +kernel) w h).1
set_option maxRecDepth 20000 in
theorem lwk_36 : ∀ w ∈ wsL_law_r36, w ∈ lw_tbl := fun w h => (goodIn_r (big := lw_tbl) wsL_law_r36 [1167, 722, 723, 724, 725, 726, 727, 728, 729, 730, 731, 732, 734, 19, 735, 736, 737, 739, 20, 740, 741, 742, 744, 21] (by decide +kernel) (by decide +kernel) w h).1
set_option maxRecDepth 20000 in
theorem lwk_37 : ∀ w ∈ wsL_law_r37, w ∈ lw_tbl := fun w h => (goodIn_r (big := lw_tbl) wsL_law_r37 [745, 746, 747, 748, 750, 22, 751, 752, 753, 754, 1168, 1169, 1170, 1171, 1172, 809, 1173, 1175, 54, 1176, 1177, 1178, 1180, 55] (by decide +kernel) (by decide +kernel) w h).1
set_option maxRecDepth 20000 in
theorem lwk_38 : ∀ w ∈ wsL_law_r38, w ∈ lw_tbl := fun w h => (goodIn_r (big := lw_tbl) wsL_law_r38 [1181] (by decide +kernel) (by decide +kernel) w h).1
set_option maxRecDepth 20000 in
theorem inX0 : ∀ w ∈ wsX00, w ∈ lw_tbl := fun w h => (goodIn_r (big := lw_tbl) wsX00 [123, 125, 127] (by decide +kernel) (by decide +kernel) w h).1
set_option maxRecDepth 20000 in
theorem inX1 : ∀ w ∈ wsX10, w ∈ lw_tbl := fun w h => (goodIn_r (big := lw_tbl) wsX10 [188, 190, 192, 194, 196, 198, 200] (by decide +kernel) (by decide +kernel) w h).1
set_option maxRecDepth 20000 in
theorem inX2 : ∀ w ∈ wsX20, w ∈ lw_tbl := fun w h => (goodIn_r (big := lw_tbl) wsX20 [150, 152, 154, 156, 158, 160, 162, 164, 166, 168, 170] (by decide +kernel) (by decide +kernel) w h).1
set_option maxRecDepth 20000 in
theorem inX3 : ∀ w ∈ wsX30, w ∈ lw_tbl := fun w h => (goodIn_r (big := lw_tbl) wsX30 [257, 259, 261] (by decide +kernel) (by decide +kernel) w h).1
set_option maxRecDepth 20000 in
theorem inX4 : ∀ w ∈ wsX40, w ∈ lw_tbl := fun w h => (goodIn_r (big := lw_tbl) wsX40 [235, 237, 239, 241, 243] (by decide +kernel) (by decide +kernel) w h).1
set_option maxRecDepth 20000 in
theorem inX5 : ∀ w ∈ wsX50, w ∈ lw_tbl := fun w h => (goodIn_r (big := lw_tbl) wsX50 [273, 275] (by decide +kernel) (by decide +kernel) w h).1
set_option maxRecDepth 20000 in
theorem inX6 : ∀ w ∈ wsX60, w ∈ lw_tbl := fun w h => (goodIn_r (big := lw_tbl) wsX60 [289, 291, 293, 295] (by decide +kernel) (by decide +kernel) w h).1
set_option maxRecDepth 20000 in
theorem inX7 : ∀ w ∈ wsX70, w ∈ lw_tbl := fun w h => (goodIn_r (big := lw_tbl) wsX70 [99, 101, 103, 105, 107] (by decide +kernel) (by decide +kernel) w h).1
set_option maxRecDepth 20000 in
theorem inX8 : ∀ w ∈ wsX80, w ∈ lw_tbl := fun w h => (goodIn_r (big := lw_tbl) wsX80 [212, 214, 216] (by decide +kernel) (by decide +kernel) w h).1
set_option maxRecDepth 20000 in
theorem inX9 : ∀ w ∈ wsX90, w ∈ lw_tbl := fun w h => (goodIn_r (big := lw_tbl) wsX90 [311, 313, 315, 317, 319, 321, 323, 325, 327, 329, 331, 333, 335] (by decide +kernel) (by decide +kernel) w h).1
set_option maxRecDepth 20000 in
theorem inX10 : ∀ w ∈ wsX100, w ∈ lw_tbl := fun w h => (goodIn_r (big := lw_tbl) wsX100 [810, 812, 814, 816, 818, 820, 822, 824, 826, 828, 830, 832, 834, 836, 838, 840, 842, 844, 846, 848, 850, 852, 854, 856, 858, 860, 862, 864, 866, 868, 870, 872, 874, 876, 878, 880, 882, 884, 886, 888, 890, 892, 894, 896, 898, 900, 902, 904, 906] (by decide +kernel) (by decide +kernel) w h).1
theorem lw_app {a b big : List Cond} (ha : ∀ w ∈ a, w ∈ big) (hb : ∀ w ∈ b, w ∈ big) : ∀ w ∈ a ++ b, w ∈ big := fun w h => (List.mem_append.mp h).elim (ha w) (hb w)
theorem wsL_law_in : ∀ w ∈ wsL_law, w ∈ lw_tbl := (lw_app (lw_app (lw_app (lw_app (lw_app (lw_app (lw_app (lw_app (lw_app (lw_app (lw_app (lw_app (lw_app lwk_1 (lw_app lwk_2 (lw_app lwk_3 (lw_app lwk_4 (lw_app lwk_5 (lw_app lwk_6 (lw_app lwk_7 (lw_app lwk_8 (lw_app lwk_9 (lw_app lwk_10 (lw_app lwk_11 (lw_app lwk_12 (lw_app lwk_13 (lw_app lwk_14 (lw_app lwk_15 (lw_app lwk_16 (lw_app lwk_17 (lw_app lwk_18 (lw_app lwk_19 (lw_app lwk_20 (lw_app lwk_21 (lw_app lwk_22 (lw_app lwk_23 (lw_app lwk_24 (lw_app lwk_25 (lw_app lwk_26 (lw_app lwk_27 (lw_app lwk_28 (lw_app lwk_29 (lw_app lwk_30 (lw_app lwk_31 (lw_app lwk_32 (lw_app lwk_33 (lw_app lwk_34 (lw_app lwk_35 (lw_app lwk_36 (lw_app lwk_37 lwk_38))))))))))))))))))))))))))))))))))))) inX9) inX10) inX1) inX8) inX4) inX3) inX5) inX6) inX7) inX0) inX2) (fun _ h => absurd h List.not_mem_nil))
