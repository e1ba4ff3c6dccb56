theorem dX10_init_0 : decode cX10_init 0 = .ok (.aload_n 0, 1) := by decide +kernel
theorem dX10_init_1 : decode cX10_init 1 = .ok (.invokespecial 1, 3) := by decide +kernel
theorem dX10_init_4 : decode cX10_init 4 = .ok (.aload_n 0, 1) := by decide +kernel
theorem dX10_init_5 : decode cX10_init 5 = .ok (.lconst 1, 1) := by decide +kernel
theorem dX10_init_6 : decode cX10_init 6 = .ok (.putfield 7, 3) := by decide +kernel
theorem dX10_init_9 : decode cX10_init 9 = .ok (.aload_n 0, 1) := by decide +kernel
theorem dX10_init_10 : decode cX10_init 10 = .ok (.iconst 1, 1) := by decide +kernel
theorem dX10_init_11 : decode cX10_init 11 = .ok (.putfield 13, 3) := by decide +kernel
theorem dX10_init_14 : decode cX10_init 14 = .ok (.aload_n 0, 1) := by decide +kernel
theorem dX10_init_15 : decode cX10_init 15 = .ok (.bipush 10, 2) := by decide +kernel
theorem dX10_init_17 : decode cX10_init 17 = .ok (.putfield 17, 3) := by decide +kernel
theorem dX10_init_20 : decode cX10_init 20 = .ok (.aload_n 0, 1) := by decide +kernel
theorem dX10_init_21 : decode cX10_init 21 = .ok (.iconst 1, 1) := by decide +kernel
theorem dX10_init_22 : decode cX10_init 22 = .ok (.putfield 21, 3) := by decide +kernel
theorem dX10_init_25 : decode cX10_init 25 = .ok (.aload_n 0, 1) := by decide +kernel
theorem dX10_init_26 : decode cX10_init 26 = .ok (.iconst 4, 1) := by decide +kernel
theorem dX10_init_27 : decode cX10_init 27 = .ok (.putfield 24, 3) := by decide +kernel
theorem dX10_init_30 : decode cX10_init 30 = .ok (.aload_n 0, 1) := by decide +kernel
theorem dX10_init_31 : decode cX10_init 31 = .ok (.iconst 4, 1) := by decide +kernel
theorem dX10_init_32 : decode cX10_init 32 = .ok (.newarray .int, 2) := by decide +kernel
theorem dX10_init_34 : decode cX10_init 34 = .ok (.putfield 27, 3) := by decide +kernel
theorem dX10_init_37 : decode cX10_init 37 = .ok (.aload_n 0, 1) := by decide +kernel
theorem dX10_init_38 : decode cX10_init 38 = .ok (.iconst 3, 1) := by decide +kernel
theorem dX10_init_39 : decode cX10_init 39 = .ok (.newarray .long, 2) := by decide +kernel
theorem dX10_init_41 : decode cX10_init 41 = .ok (.putfield 31, 3) := by decide +kernel
theorem dX10_init_44 : decode cX10_init 44 = .ok (.aload_n 0, 1) := by decide +kernel
theorem dX10_init_45 : decode cX10_init 45 = .ok (.iconst 3, 1) := by decide +kernel
theorem dX10_init_46 : decode cX10_init 46 = .ok (.newarray .int, 2) := by decide +kernel
theorem dX10_init_48 : decode cX10_init 48 = .ok (.putfield 35, 3) := by decide +kernel
theorem dX10_init_51 : decode cX10_init 51 = .ok (.aload_n 0, 1) := by decide +kernel
theorem dX10_init_52 : decode cX10_init 52 = .ok (.iconst 3, 1) := by decide +kernel
theorem dX10_init_53 : decode cX10_init 53 = .ok (.newarray .int, 2) := by decide +kernel
theorem dX10_init_55 : decode cX10_init 55 = .ok (.putfield 38, 3) := by decide +kernel
theorem dX10_init_58 : decode cX10_init 58 = .ok (.aload_n 0, 1) := by decide +kernel
theorem dX10_init_59 : decode cX10_init 59 = .ok (.bipush 17, 2) := by decide +kernel
theorem dX10_init_61 : decode cX10_init 61 = .ok (.newarray .long, 2) := by decide +kernel
theorem dX10_init_63 : decode cX10_init 63 = .ok (.putfield 41, 3) := by decide +kernel
theorem dX10_init_66 : decode cX10_init 66 = .ok (.aload_n 0, 1) := by decide +kernel
theorem dX10_init_67 : decode cX10_init 67 = .ok (.bipush 96, 2) := by decide +kernel
theorem dX10_init_69 : decode cX10_init 69 = .ok (.newarray .int, 2) := by decide +kernel
theorem dX10_init_71 : decode cX10_init 71 = .ok (.putfield 44, 3) := by decide +kernel
theorem dX10_init_74 : decode cX10_init 74 = .ok (.aload_n 0, 1) := by decide +kernel
theorem dX10_init_75 : decode cX10_init 75 = .ok (.bipush 40, 2) := by decide +kernel
theorem dX10_init_77 : decode cX10_init 77 = .ok (.newarray .int, 2) := by decide +kernel
theorem dX10_init_79 : decode cX10_init 79 = .ok (.putfield 47, 3) := by decide +kernel
theorem dX10_init_82 : decode cX10_init 82 = .ok (.return_, 1) := by decide +kernel
theorem dX10_within_0 : decode cX10_within 0 = .ok (.iload_n 0, 1) := by decide +kernel
theorem dX10_within_1 : decode cX10_within 1 = .ok (.iload_n 1, 1) := by decide +kernel
theorem dX10_within_2 : decode cX10_within 2 = .ok (.if_icmp .lt 12, 3) := by decide +kernel
theorem dX10_within_5 : decode cX10_within 5 = .ok (.iload_n 0, 1) := by decide +kernel
theorem dX10_within_6 : decode cX10_within 6 = .ok (.iload_n 2, 1) := by decide +kernel
theorem dX10_within_7 : decode cX10_within 7 = .ok (.if_icmp .gt 7, 3) := by decide +kernel
theorem dX10_within_10 : decode cX10_within 10 = .ok (.iconst 1, 1) := by decide +kernel
theorem dX10_within_11 : decode cX10_within 11 = .ok (.goto 4, 3) := by decide +kernel
theorem dX10_within_14 : decode cX10_within 14 = .ok (.iconst 0, 1) := by decide +kernel
theorem dX10_within_15 : decode cX10_within 15 = .ok (.ireturn, 1) := by decide +kernel
set_option maxRecDepth 20000 in
theorem ggX10_letter_X10_within : GoodIn wsX10_letter wsX10_within := goodIn_r _ [8] (by decide +kernel) (by decide +kernel)
set_option maxRecDepth 20000 in
theorem gX10_letter_X10_within : GoodIn wsX10_letter (va_wsS RX10 50 yX10_within wsX10_within) := goodIn_app (goodIn_of _ (by decide +kernel)) ggX10_letter_X10_within
theorem dX10_letter_0 : decode cX10_letter 0 = .ok (.iload_n 1, 1) := by decide +kernel
theorem dX10_letter_1 : decode cX10_letter 1 = .ok (.bipush 32, 2) := by decide +kernel
theorem dX10_letter_3 : decode cX10_letter 3 = .ok (.bipush 126, 2) := by decide +kernel
theorem dX10_letter_5 : decode cX10_letter 5 = .ok (.invokestatic 50, 3) := by decide +kernel
theorem dX10_letter_8 : decode cX10_letter 8 = .ok (.ifCond .ne 6, 3) := by decide +kernel
theorem dX10_letter_11 : decode cX10_letter 11 = .ok (.ldc 54, 2) := by decide +kernel
theorem dX10_letter_13 : decode cX10_letter 13 = .ok (.ireturn, 1) := by decide +kernel
theorem dX10_letter_14 : decode cX10_letter 14 = .ok (.aload_n 0, 1) := by decide +kernel
theorem dX10_letter_15 : decode cX10_letter 15 = .ok (.getfield 55, 3) := by decide +kernel
theorem dX10_letter_18 : decode cX10_letter 18 = .ok (.bipush 40, 2) := by decide +kernel
theorem dX10_letter_20 : decode cX10_letter 20 = .ok (.if_icmp .ne 6, 3) := by decide +kernel
theorem dX10_letter_23 : decode cX10_letter 23 = .ok (.ldc 58, 2) := by decide +kernel
theorem dX10_letter_25 : decode cX10_letter 25 = .ok (.ireturn, 1) := by decide +kernel
theorem dX10_letter_26 : decode cX10_letter 26 = .ok (.aload_n 0, 1) := by decide +kernel
theorem dX10_letter_27 : decode cX10_letter 27 = .ok (.getfield 47, 3) := by decide +kernel
theorem dX10_letter_30 : decode cX10_letter 30 = .ok (.aload_n 0, 1) := by decide +kernel
theorem dX10_letter_31 : decode cX10_letter 31 = .ok (.getfield 55, 3) := by decide +kernel
theorem dX10_letter_34 : decode cX10_letter 34 = .ok (.iload_n 1, 1) := by decide +kernel
theorem dX10_letter_35 : decode cX10_letter 35 = .ok (.iastore, 1) := by decide +kernel
theorem dX10_letter_36 : decode cX10_letter 36 = .ok (.aload_n 0, 1) := by decide +kernel
theorem dX10_letter_37 : decode cX10_letter 37 = .ok (.dup, 1) := by decide +kernel
theorem dX10_letter_38 : decode cX10_letter 38 = .ok (.getfield 55, 3) := by decide +kernel
theorem dX10_letter_41 : decode cX10_letter 41 = .ok (.iconst 1, 1) := by decide +kernel
theorem dX10_letter_42 : decode cX10_letter 42 = .ok (.iadd, 1) := by decide +kernel
theorem dX10_letter_43 : decode cX10_letter 43 = .ok (.putfield 55, 3) := by decide +kernel
theorem dX10_letter_46 : decode cX10_letter 46 = .ok (.aload_n 0, 1) := by decide +kernel
theorem dX10_letter_47 : decode cX10_letter 47 = .ok (.getfield 55, 3) := by decide +kernel
theorem dX10_letter_50 : decode cX10_letter 50 = .ok (.ireturn, 1) := by decide +kernel
theorem dX10_blank_0 : decode cX10_blank 0 = .ok (.aload_n 0, 1) := by decide +kernel
theorem dX10_blank_1 : decode cX10_blank 1 = .ok (.getfield 55, 3) := by decide +kernel
theorem dX10_blank_4 : decode cX10_blank 4 = .ok (.istore_n 1, 1) := by decide +kernel
theorem dX10_blank_5 : decode cX10_blank 5 = .ok (.aload_n 0, 1) := by decide +kernel
theorem dX10_blank_6 : decode cX10_blank 6 = .ok (.iconst 0, 1) := by decide +kernel
theorem dX10_blank_7 : decode cX10_blank 7 = .ok (.putfield 55, 3) := by decide +kernel
theorem dX10_blank_10 : decode cX10_blank 10 = .ok (.iload_n 1, 1) := by decide +kernel
theorem dX10_blank_11 : decode cX10_blank 11 = .ok (.ireturn, 1) := by decide +kernel
theorem dX10_leastOf_0 : decode cX10_leastOf 0 = .ok (.iload_n 0, 1) := by decide +kernel
theorem dX10_leastOf_1 : decode cX10_leastOf 1 = .ok (.bipush 78, 2) := by decide +kernel
theorem dX10_leastOf_3 : decode cX10_leastOf 3 = .ok (.if_icmp .eq 15, 3) := by decide +kernel
theorem dX10_leastOf_6 : decode cX10_leastOf 6 = .ok (.iload_n 0, 1) := by decide +kernel
theorem dX10_leastOf_7 : decode cX10_leastOf 7 = .ok (.bipush 70, 2) := by decide +kernel
theorem dX10_leastOf_9 : decode cX10_leastOf 9 = .ok (.if_icmp .eq 9, 3) := by decide +kernel
theorem dX10_leastOf_12 : decode cX10_leastOf 12 = .ok (.iload_n 0, 1) := by decide +kernel
theorem dX10_leastOf_13 : decode cX10_leastOf 13 = .ok (.bipush 71, 2) := by decide +kernel
theorem dX10_leastOf_15 : decode cX10_leastOf 15 = .ok (.if_icmp .ne 7, 3) := by decide +kernel
theorem dX10_leastOf_18 : decode cX10_leastOf 18 = .ok (.iconst 1, 1) := by decide +kernel
theorem dX10_leastOf_19 : decode cX10_leastOf 19 = .ok (.goto 15, 3) := by decide +kernel
theorem dX10_leastOf_22 : decode cX10_leastOf 22 = .ok (.iload_n 0, 1) := by decide +kernel
theorem dX10_leastOf_23 : decode cX10_leastOf 23 = .ok (.bipush 68, 2) := by decide +kernel
theorem dX10_leastOf_25 : decode cX10_leastOf 25 = .ok (.if_icmp .ne 8, 3) := by decide +kernel
theorem dX10_leastOf_28 : decode cX10_leastOf 28 = .ok (.ldc 59, 2) := by decide +kernel
theorem dX10_leastOf_30 : decode cX10_leastOf 30 = .ok (.goto 4, 3) := by decide +kernel
theorem dX10_leastOf_33 : decode cX10_leastOf 33 = .ok (.iconst 0, 1) := by decide +kernel
theorem dX10_leastOf_34 : decode cX10_leastOf 34 = .ok (.ireturn, 1) := by decide +kernel
theorem dX10_mostOf_0 : decode cX10_mostOf 0 = .ok (.iload_n 0, 1) := by decide +kernel
theorem dX10_mostOf_1 : decode cX10_mostOf 1 = .ok (.lookupswitch 73 #[(68, 70), (70, 64), (78, 59), (82, 62), (87, 67), (90, 62)], 59) := by decide +kernel
theorem dX10_mostOf_60 : decode cX10_mostOf 60 = .ok (.bipush 50, 2) := by decide +kernel
theorem dX10_mostOf_62 : decode cX10_mostOf 62 = .ok (.ireturn, 1) := by decide +kernel
theorem dX10_mostOf_63 : decode cX10_mostOf 63 = .ok (.iconst 2, 1) := by decide +kernel
theorem dX10_mostOf_64 : decode cX10_mostOf 64 = .ok (.ireturn, 1) := by decide +kernel
theorem dX10_mostOf_65 : decode cX10_mostOf 65 = .ok (.bipush 16, 2) := by decide +kernel
theorem dX10_mostOf_67 : decode cX10_mostOf 67 = .ok (.ireturn, 1) := by decide +kernel
theorem dX10_mostOf_68 : decode cX10_mostOf 68 = .ok (.ldc 60, 2) := by decide +kernel
theorem dX10_mostOf_70 : decode cX10_mostOf 70 = .ok (.ireturn, 1) := by decide +kernel
theorem dX10_mostOf_71 : decode cX10_mostOf 71 = .ok (.ldc 61, 2) := by decide +kernel
theorem dX10_mostOf_73 : decode cX10_mostOf 73 = .ok (.ireturn, 1) := by decide +kernel
theorem dX10_mostOf_74 : decode cX10_mostOf 74 = .ok (.bipush 9, 2) := by decide +kernel
theorem dX10_mostOf_76 : decode cX10_mostOf 76 = .ok (.ireturn, 1) := by decide +kernel
theorem dX10_isCommand_0 : decode cX10_isCommand 0 = .ok (.iload_n 0, 1) := by decide +kernel
theorem dX10_isCommand_1 : decode cX10_isCommand 1 = .ok (.bipush 78, 2) := by decide +kernel
theorem dX10_isCommand_3 : decode cX10_isCommand 3 = .ok (.if_icmp .eq 45, 3) := by decide +kernel
theorem dX10_isCommand_6 : decode cX10_isCommand 6 = .ok (.iload_n 0, 1) := by decide +kernel
theorem dX10_isCommand_7 : decode cX10_isCommand 7 = .ok (.bipush 82, 2) := by decide +kernel
theorem dX10_isCommand_9 : decode cX10_isCommand 9 = .ok (.if_icmp .eq 39, 3) := by decide +kernel
theorem dX10_isCommand_12 : decode cX10_isCommand 12 = .ok (.iload_n 0, 1) := by decide +kernel
theorem dX10_isCommand_13 : decode cX10_isCommand 13 = .ok (.bipush 65, 2) := by decide +kernel
theorem dX10_isCommand_15 : decode cX10_isCommand 15 = .ok (.if_icmp .eq 33, 3) := by decide +kernel
theorem dX10_isCommand_18 : decode cX10_isCommand 18 = .ok (.iload_n 0, 1) := by decide +kernel
theorem dX10_isCommand_19 : decode cX10_isCommand 19 = .ok (.bipush 90, 2) := by decide +kernel
theorem dX10_isCommand_21 : decode cX10_isCommand 21 = .ok (.if_icmp .eq 27, 3) := by decide +kernel
theorem dX10_isCommand_24 : decode cX10_isCommand 24 = .ok (.iload_n 0, 1) := by decide +kernel
theorem dX10_isCommand_25 : decode cX10_isCommand 25 = .ok (.bipush 70, 2) := by decide +kernel
theorem dX10_isCommand_27 : decode cX10_isCommand 27 = .ok (.if_icmp .eq 21, 3) := by decide +kernel
theorem dX10_isCommand_30 : decode cX10_isCommand 30 = .ok (.iload_n 0, 1) := by decide +kernel
theorem dX10_isCommand_31 : decode cX10_isCommand 31 = .ok (.bipush 87, 2) := by decide +kernel
theorem dX10_isCommand_33 : decode cX10_isCommand 33 = .ok (.if_icmp .eq 15, 3) := by decide +kernel
theorem dX10_isCommand_36 : decode cX10_isCommand 36 = .ok (.iload_n 0, 1) := by decide +kernel
theorem dX10_isCommand_37 : decode cX10_isCommand 37 = .ok (.bipush 68, 2) := by decide +kernel
theorem dX10_isCommand_39 : decode cX10_isCommand 39 = .ok (.if_icmp .eq 9, 3) := by decide +kernel
theorem dX10_isCommand_42 : decode cX10_isCommand 42 = .ok (.iload_n 0, 1) := by decide +kernel
theorem dX10_isCommand_43 : decode cX10_isCommand 43 = .ok (.bipush 71, 2) := by decide +kernel
theorem dX10_isCommand_45 : decode cX10_isCommand 45 = .ok (.if_icmp .ne 7, 3) := by decide +kernel
theorem dX10_isCommand_48 : decode cX10_isCommand 48 = .ok (.iconst 1, 1) := by decide +kernel
theorem dX10_isCommand_49 : decode cX10_isCommand 49 = .ok (.goto 4, 3) := by decide +kernel
theorem dX10_isCommand_52 : decode cX10_isCommand 52 = .ok (.iconst 0, 1) := by decide +kernel
theorem dX10_isCommand_53 : decode cX10_isCommand 53 = .ok (.ireturn, 1) := by decide +kernel
set_option maxRecDepth 20000 in
theorem ggX10_beginsWith_X10_isCommand : GoodIn wsX10_beginsWith wsX10_isCommand := goodIn_r _ [8] (by decide +kernel) (by decide +kernel)
set_option maxRecDepth 20000 in
theorem gX10_beginsWith_X10_isCommand : GoodIn wsX10_beginsWith (va_wsS RX10 62 yX10_isCommand wsX10_isCommand) := goodIn_app (goodIn_of _ (by decide +kernel)) ggX10_beginsWith_X10_isCommand
theorem dX10_beginsWith_0 : decode cX10_beginsWith 0 = .ok (.aload_n 0, 1) := by decide +kernel
theorem dX10_beginsWith_1 : decode cX10_beginsWith 1 = .ok (.iload_n 1, 1) := by decide +kernel
theorem dX10_beginsWith_2 : decode cX10_beginsWith 2 = .ok (.invokestatic 62, 3) := by decide +kernel
theorem dX10_beginsWith_5 : decode cX10_beginsWith 5 = .ok (.ifCond .eq 7, 3) := by decide +kernel
theorem dX10_beginsWith_8 : decode cX10_beginsWith 8 = .ok (.iload_n 1, 1) := by decide +kernel
theorem dX10_beginsWith_9 : decode cX10_beginsWith 9 = .ok (.goto 4, 3) := by decide +kernel
theorem dX10_beginsWith_12 : decode cX10_beginsWith 12 = .ok (.iconst 0, 1) := by decide +kernel
theorem dX10_beginsWith_13 : decode cX10_beginsWith 13 = .ok (.putfield 66, 3) := by decide +kernel
theorem dX10_beginsWith_16 : decode cX10_beginsWith 16 = .ok (.aload_n 0, 1) := by decide +kernel
theorem dX10_beginsWith_17 : decode cX10_beginsWith 17 = .ok (.iconst 0, 1) := by decide +kernel
theorem dX10_beginsWith_18 : decode cX10_beginsWith 18 = .ok (.putfield 69, 3) := by decide +kernel
theorem dX10_beginsWith_21 : decode cX10_beginsWith 21 = .ok (.aload_n 0, 1) := by decide +kernel
theorem dX10_beginsWith_22 : decode cX10_beginsWith 22 = .ok (.iconst 0, 1) := by decide +kernel
theorem dX10_beginsWith_23 : decode cX10_beginsWith 23 = .ok (.putfield 72, 3) := by decide +kernel
theorem dX10_beginsWith_26 : decode cX10_beginsWith 26 = .ok (.aload_n 0, 1) := by decide +kernel
theorem dX10_beginsWith_27 : decode cX10_beginsWith 27 = .ok (.iconst 0, 1) := by decide +kernel
theorem dX10_beginsWith_28 : decode cX10_beginsWith 28 = .ok (.putfield 75, 3) := by decide +kernel
theorem dX10_beginsWith_31 : decode cX10_beginsWith 31 = .ok (.aload_n 0, 1) := by decide +kernel
theorem dX10_beginsWith_32 : decode cX10_beginsWith 32 = .ok (.getfield 66, 3) := by decide +kernel
theorem dX10_beginsWith_35 : decode cX10_beginsWith 35 = .ok (.ifCond .eq 7, 3) := by decide +kernel
theorem dX10_beginsWith_38 : decode cX10_beginsWith 38 = .ok (.iconst 1, 1) := by decide +kernel
theorem dX10_beginsWith_39 : decode cX10_beginsWith 39 = .ok (.goto 4, 3) := by decide +kernel
theorem dX10_beginsWith_42 : decode cX10_beginsWith 42 = .ok (.iconst 0, 1) := by decide +kernel
theorem dX10_beginsWith_43 : decode cX10_beginsWith 43 = .ok (.ireturn, 1) := by decide +kernel
set_option maxRecDepth 20000 in
theorem ggX10_isWhole_X10_leastOf : GoodIn wsX10_isWhole wsX10_leastOf := goodIn_r _ [8, 9] (by decide +kernel) (by decide +kernel)
set_option maxRecDepth 20000 in
theorem gX10_isWhole_X10_leastOf : GoodIn wsX10_isWhole (va_wsS RX10 78 yX10_leastOf wsX10_leastOf) := goodIn_app (goodIn_of _ (by decide +kernel)) ggX10_isWhole_X10_leastOf
theorem dX10_isWhole_0 : decode cX10_isWhole 0 = .ok (.aload_n 0, 1) := by decide +kernel
theorem dX10_isWhole_1 : decode cX10_isWhole 1 = .ok (.getfield 66, 3) := by decide +kernel
theorem dX10_isWhole_4 : decode cX10_isWhole 4 = .ok (.ifCond .ne 5, 3) := by decide +kernel
theorem dX10_isWhole_7 : decode cX10_isWhole 7 = .ok (.iconst 0, 1) := by decide +kernel
theorem dX10_isWhole_8 : decode cX10_isWhole 8 = .ok (.ireturn, 1) := by decide +kernel
theorem dX10_isWhole_9 : decode cX10_isWhole 9 = .ok (.aload_n 0, 1) := by decide +kernel
theorem dX10_isWhole_10 : decode cX10_isWhole 10 = .ok (.getfield 66, 3) := by decide +kernel
theorem dX10_isWhole_13 : decode cX10_isWhole 13 = .ok (.bipush 65, 2) := by decide +kernel
theorem dX10_isWhole_15 : decode cX10_isWhole 15 = .ok (.if_icmp .eq 31, 3) := by decide +kernel
theorem dX10_isWhole_18 : decode cX10_isWhole 18 = .ok (.aload_n 0, 1) := by decide +kernel
theorem dX10_isWhole_19 : decode cX10_isWhole 19 = .ok (.getfield 69, 3) := by decide +kernel
theorem dX10_isWhole_22 : decode cX10_isWhole 22 = .ok (.ifCond .le 28, 3) := by decide +kernel
theorem dX10_isWhole_25 : decode cX10_isWhole 25 = .ok (.aload_n 0, 1) := by decide +kernel
theorem dX10_isWhole_26 : decode cX10_isWhole 26 = .ok (.getfield 75, 3) := by decide +kernel
theorem dX10_isWhole_29 : decode cX10_isWhole 29 = .ok (.ifCond .ne 17, 3) := by decide +kernel
theorem dX10_isWhole_32 : decode cX10_isWhole 32 = .ok (.aload_n 0, 1) := by decide +kernel
theorem dX10_isWhole_33 : decode cX10_isWhole 33 = .ok (.getfield 72, 3) := by decide +kernel
theorem dX10_isWhole_36 : decode cX10_isWhole 36 = .ok (.aload_n 0, 1) := by decide +kernel
theorem dX10_isWhole_37 : decode cX10_isWhole 37 = .ok (.getfield 66, 3) := by decide +kernel
theorem dX10_isWhole_40 : decode cX10_isWhole 40 = .ok (.invokestatic 78, 3) := by decide +kernel
theorem dX10_isWhole_43 : decode cX10_isWhole 43 = .ok (.if_icmp .lt 7, 3) := by decide +kernel
theorem dX10_isWhole_46 : decode cX10_isWhole 46 = .ok (.iconst 1, 1) := by decide +kernel
theorem dX10_isWhole_47 : decode cX10_isWhole 47 = .ok (.goto 4, 3) := by decide +kernel
theorem dX10_isWhole_50 : decode cX10_isWhole 50 = .ok (.iconst 0, 1) := by decide +kernel
theorem dX10_isWhole_51 : decode cX10_isWhole 51 = .ok (.ireturn, 1) := by decide +kernel
set_option maxRecDepth 20000 in
theorem ggX10_takesFigure_X10_mostOf : GoodIn wsX10_takesFigure wsX10_mostOf := goodIn_r _ [8, 9, 10] (by decide +kernel) (by decide +kernel)
set_option maxRecDepth 20000 in
theorem gX10_takesFigure_X10_mostOf : GoodIn wsX10_takesFigure (va_wsS RX10 82 yX10_mostOf wsX10_mostOf) := goodIn_app (goodIn_of _ (by decide +kernel)) ggX10_takesFigure_X10_mostOf
theorem dX10_takesFigure_0 : decode cX10_takesFigure 0 = .ok (.aload_n 0, 1) := by decide +kernel
theorem dX10_takesFigure_1 : decode cX10_takesFigure 1 = .ok (.getfield 69, 3) := by decide +kernel
theorem dX10_takesFigure_4 : decode cX10_takesFigure 4 = .ok (.ifCond .ne 22, 3) := by decide +kernel
theorem dX10_takesFigure_7 : decode cX10_takesFigure 7 = .ok (.aload_n 0, 1) := by decide +kernel
theorem dX10_takesFigure_8 : decode cX10_takesFigure 8 = .ok (.getfield 75, 3) := by decide +kernel
theorem dX10_takesFigure_11 : decode cX10_takesFigure 11 = .ok (.ifCond .eq 7, 3) := by decide +kernel
theorem dX10_takesFigure_14 : decode cX10_takesFigure 14 = .ok (.iload_n 1, 1) := by decide +kernel
theorem dX10_takesFigure_15 : decode cX10_takesFigure 15 = .ok (.ifCond .le 7, 3) := by decide +kernel
theorem dX10_takesFigure_18 : decode cX10_takesFigure 18 = .ok (.iconst 1, 1) := by decide +kernel
theorem dX10_takesFigure_19 : decode cX10_takesFigure 19 = .ok (.goto 19, 3) := by decide +kernel
theorem dX10_takesFigure_22 : decode cX10_takesFigure 22 = .ok (.iconst 0, 1) := by decide +kernel
theorem dX10_takesFigure_23 : decode cX10_takesFigure 23 = .ok (.goto 15, 3) := by decide +kernel
theorem dX10_takesFigure_26 : decode cX10_takesFigure 26 = .ok (.aload_n 0, 1) := by decide +kernel
theorem dX10_takesFigure_27 : decode cX10_takesFigure 27 = .ok (.getfield 72, 3) := by decide +kernel
theorem dX10_takesFigure_30 : decode cX10_takesFigure 30 = .ok (.ifCond .le 7, 3) := by decide +kernel
theorem dX10_takesFigure_33 : decode cX10_takesFigure 33 = .ok (.iconst 1, 1) := by decide +kernel
theorem dX10_takesFigure_34 : decode cX10_takesFigure 34 = .ok (.goto 4, 3) := by decide +kernel
theorem dX10_takesFigure_37 : decode cX10_takesFigure 37 = .ok (.iconst 0, 1) := by decide +kernel
theorem dX10_takesFigure_38 : decode cX10_takesFigure 38 = .ok (.istore_n 2, 1) := by decide +kernel
theorem dX10_takesFigure_39 : decode cX10_takesFigure 39 = .ok (.aload_n 0, 1) := by decide +kernel
theorem dX10_takesFigure_40 : decode cX10_takesFigure 40 = .ok (.getfield 66, 3) := by decide +kernel
theorem dX10_takesFigure_43 : decode cX10_takesFigure 43 = .ok (.bipush 65, 2) := by decide +kernel
theorem dX10_takesFigure_45 : decode cX10_takesFigure 45 = .ok (.if_icmp .eq 30, 3) := by decide +kernel
theorem dX10_takesFigure_48 : decode cX10_takesFigure 48 = .ok (.iload_n 2, 1) := by decide +kernel
theorem dX10_takesFigure_49 : decode cX10_takesFigure 49 = .ok (.ifCond .eq 26, 3) := by decide +kernel
theorem dX10_takesFigure_52 : decode cX10_takesFigure 52 = .ok (.bipush 10, 2) := by decide +kernel
theorem dX10_takesFigure_54 : decode cX10_takesFigure 54 = .ok (.aload_n 0, 1) := by decide +kernel
theorem dX10_takesFigure_55 : decode cX10_takesFigure 55 = .ok (.getfield 72, 3) := by decide +kernel
theorem dX10_takesFigure_58 : decode cX10_takesFigure 58 = .ok (.imul, 1) := by decide +kernel
theorem dX10_takesFigure_59 : decode cX10_takesFigure 59 = .ok (.iload_n 1, 1) := by decide +kernel
theorem dX10_takesFigure_60 : decode cX10_takesFigure 60 = .ok (.iadd, 1) := by decide +kernel
theorem dX10_takesFigure_61 : decode cX10_takesFigure 61 = .ok (.aload_n 0, 1) := by decide +kernel
theorem dX10_takesFigure_62 : decode cX10_takesFigure 62 = .ok (.getfield 66, 3) := by decide +kernel
theorem dX10_takesFigure_65 : decode cX10_takesFigure 65 = .ok (.invokestatic 82, 3) := by decide +kernel
theorem dX10_takesFigure_68 : decode cX10_takesFigure 68 = .ok (.if_icmp .gt 7, 3) := by decide +kernel
theorem dX10_takesFigure_71 : decode cX10_takesFigure 71 = .ok (.iconst 1, 1) := by decide +kernel
theorem dX10_takesFigure_72 : decode cX10_takesFigure 72 = .ok (.goto 4, 3) := by decide +kernel
theorem dX10_takesFigure_75 : decode cX10_takesFigure 75 = .ok (.iconst 0, 1) := by decide +kernel
theorem dX10_takesFigure_76 : decode cX10_takesFigure 76 = .ok (.istore_n 3, 1) := by decide +kernel
theorem dX10_takesFigure_77 : decode cX10_takesFigure 77 = .ok (.iload_n 3, 1) := by decide +kernel
theorem dX10_takesFigure_78 : decode cX10_takesFigure 78 = .ok (.ifCond .eq 26, 3) := by decide +kernel
theorem dX10_takesFigure_81 : decode cX10_takesFigure 81 = .ok (.aload_n 0, 1) := by decide +kernel
theorem dX10_takesFigure_82 : decode cX10_takesFigure 82 = .ok (.bipush 10, 2) := by decide +kernel
theorem dX10_takesFigure_84 : decode cX10_takesFigure 84 = .ok (.aload_n 0, 1) := by decide +kernel
theorem dX10_takesFigure_85 : decode cX10_takesFigure 85 = .ok (.getfield 72, 3) := by decide +kernel
theorem dX10_takesFigure_88 : decode cX10_takesFigure 88 = .ok (.imul, 1) := by decide +kernel
theorem dX10_takesFigure_89 : decode cX10_takesFigure 89 = .ok (.iload_n 1, 1) := by decide +kernel
theorem dX10_takesFigure_90 : decode cX10_takesFigure 90 = .ok (.iadd, 1) := by decide +kernel
theorem dX10_takesFigure_91 : decode cX10_takesFigure 91 = .ok (.putfield 72, 3) := by decide +kernel
theorem dX10_takesFigure_94 : decode cX10_takesFigure 94 = .ok (.aload_n 0, 1) := by decide +kernel
theorem dX10_takesFigure_95 : decode cX10_takesFigure 95 = .ok (.dup, 1) := by decide +kernel
theorem dX10_takesFigure_96 : decode cX10_takesFigure 96 = .ok (.getfield 69, 3) := by decide +kernel
theorem dX10_takesFigure_99 : decode cX10_takesFigure 99 = .ok (.iconst 1, 1) := by decide +kernel
theorem dX10_takesFigure_100 : decode cX10_takesFigure 100 = .ok (.iadd, 1) := by decide +kernel
theorem dX10_takesFigure_101 : decode cX10_takesFigure 101 = .ok (.putfield 69, 3) := by decide +kernel
theorem dX10_takesFigure_104 : decode cX10_takesFigure 104 = .ok (.iload_n 3, 1) := by decide +kernel
theorem dX10_takesFigure_105 : decode cX10_takesFigure 105 = .ok (.ireturn, 1) := by decide +kernel
set_option maxRecDepth 20000 in
theorem ggX10_takes_X10_beginsWith : GoodIn wsX10_takes wsX10_beginsWith := goodIn_r _ [8, 1, 2, 9, 3, 10, 11, 7, 12, 33, 34, 35, 36, 37, 38, 39, 40, 41, 42, 43, 44, 45, 46, 47, 48, 49, 50, 51, 52, 53, 54, 55, 56, 57, 58, 59, 60, 61, 62, 63, 64, 65, 66, 67, 68, 69, 70, 71, 72, 73, 74, 75, 76, 77, 78, 79, 80, 81] (by decide +kernel) (by decide +kernel)
set_option maxRecDepth 20000 in
theorem gX10_takes_X10_beginsWith : GoodIn wsX10_takes (wsV RX10 85 RX10 yX10_beginsWith wsX10_beginsWith) := goodIn_app (goodIn_of _ (by decide +kernel)) ggX10_takes_X10_beginsWith
set_option maxRecDepth 20000 in
theorem ggX10_takes_X10_within : GoodIn wsX10_takes wsX10_within := goodIn_r _ [15] (by decide +kernel) (by decide +kernel)
set_option maxRecDepth 20000 in
theorem gX10_takes_X10_within : GoodIn wsX10_takes (va_wsS RX10 50 yX10_within wsX10_within) := goodIn_app (goodIn_of _ (by decide +kernel)) ggX10_takes_X10_within
set_option maxRecDepth 20000 in
theorem ggX10_takes_X10_takesFigure : GoodIn wsX10_takes wsX10_takesFigure := goodIn_r _ [19, 2, 3, 9, 1, 20, 21, 7, 22, 23, 24, 33, 34, 35, 36, 37, 38, 39, 40, 41, 42, 43, 44, 45, 46, 47, 48, 49, 50, 51, 52, 53, 54, 55, 56, 57, 58, 59, 60, 61, 62, 63, 64, 65, 66, 67, 68, 69, 70, 71, 72, 73, 74, 75, 76, 77, 78, 79, 80, 81] (by decide +kernel) (by decide +kernel)
set_option maxRecDepth 20000 in
theorem gX10_takes_X10_takesFigure : GoodIn wsX10_takes (wsV RX10 88 RX10 yX10_takesFigure wsX10_takesFigure) := goodIn_app (goodIn_of _ (by decide +kernel)) ggX10_takes_X10_takesFigure
set_option maxRecDepth 20000 in
theorem ggX10_takes_X10_isWhole : GoodIn wsX10_takes wsX10_isWhole := goodIn_r _ [28, 1, 2, 3, 9, 29, 30, 7, 31, 32, 33, 34, 35, 36, 37, 38, 39, 40, 41, 42, 43, 44, 45, 46, 47, 48, 49, 50, 51, 52, 53, 54, 55, 56, 57, 58, 59, 60, 61, 62, 63, 64, 65, 66, 67, 68, 69, 70, 71, 72, 73, 74, 75, 76, 77, 78, 79, 80, 81] (by decide +kernel) (by decide +kernel)
set_option maxRecDepth 20000 in
theorem gX10_takes_X10_isWhole : GoodIn wsX10_takes (wsV RX10 91 RX10 yX10_isWhole wsX10_isWhole) := goodIn_app (goodIn_of _ (by decide +kernel)) ggX10_takes_X10_isWhole
theorem dX10_takes_0 : decode cX10_takes 0 = .ok (.aload_n 0, 1) := by decide +kernel
theorem dX10_takes_1 : decode cX10_takes 1 = .ok (.getfield 66, 3) := by decide +kernel
theorem dX10_takes_4 : decode cX10_takes 4 = .ok (.ifCond .ne 9, 3) := by decide +kernel
theorem dX10_takes_7 : decode cX10_takes 7 = .ok (.aload_n 0, 1) := by decide +kernel
theorem dX10_takes_8 : decode cX10_takes 8 = .ok (.iload_n 1, 1) := by decide +kernel
theorem dX10_takes_9 : decode cX10_takes 9 = .ok (.invokevirtual 85, 3) := by decide +kernel
theorem dX10_takes_12 : decode cX10_takes 12 = .ok (.ireturn, 1) := by decide +kernel
theorem dX10_takes_13 : decode cX10_takes 13 = .ok (.iload_n 1, 1) := by decide +kernel
theorem dX10_takes_14 : decode cX10_takes 14 = .ok (.bipush 48, 2) := by decide +kernel
theorem dX10_takes_16 : decode cX10_takes 16 = .ok (.bipush 57, 2) := by decide +kernel
theorem dX10_takes_18 : decode cX10_takes 18 = .ok (.invokestatic 50, 3) := by decide +kernel
theorem dX10_takes_21 : decode cX10_takes 21 = .ok (.ifCond .eq 12, 3) := by decide +kernel
theorem dX10_takes_24 : decode cX10_takes 24 = .ok (.aload_n 0, 1) := by decide +kernel
theorem dX10_takes_25 : decode cX10_takes 25 = .ok (.iload_n 1, 1) := by decide +kernel
theorem dX10_takes_26 : decode cX10_takes 26 = .ok (.bipush 48, 2) := by decide +kernel
theorem dX10_takes_28 : decode cX10_takes 28 = .ok (.isub, 1) := by decide +kernel
theorem dX10_takes_29 : decode cX10_takes 29 = .ok (.invokevirtual 88, 3) := by decide +kernel
theorem dX10_takes_32 : decode cX10_takes 32 = .ok (.ireturn, 1) := by decide +kernel
theorem dX10_takes_33 : decode cX10_takes 33 = .ok (.iload_n 1, 1) := by decide +kernel
theorem dX10_takes_34 : decode cX10_takes 34 = .ok (.bipush 45, 2) := by decide +kernel
theorem dX10_takes_36 : decode cX10_takes 36 = .ok (.if_icmp .ne 54, 3) := by decide +kernel
theorem dX10_takes_39 : decode cX10_takes 39 = .ok (.aload_n 0, 1) := by decide +kernel
theorem dX10_takes_40 : decode cX10_takes 40 = .ok (.getfield 66, 3) := by decide +kernel
theorem dX10_takes_43 : decode cX10_takes 43 = .ok (.bipush 68, 2) := by decide +kernel
theorem dX10_takes_45 : decode cX10_takes 45 = .ok (.if_icmp .ne 21, 3) := by decide +kernel
theorem dX10_takes_48 : decode cX10_takes 48 = .ok (.aload_n 0, 1) := by decide +kernel
theorem dX10_takes_49 : decode cX10_takes 49 = .ok (.getfield 69, 3) := by decide +kernel
theorem dX10_takes_52 : decode cX10_takes 52 = .ok (.ifCond .ne 14, 3) := by decide +kernel
theorem dX10_takes_55 : decode cX10_takes 55 = .ok (.aload_n 0, 1) := by decide +kernel
theorem dX10_takes_56 : decode cX10_takes 56 = .ok (.getfield 75, 3) := by decide +kernel
theorem dX10_takes_59 : decode cX10_takes 59 = .ok (.ifCond .ne 7, 3) := by decide +kernel
theorem dX10_takes_62 : decode cX10_takes 62 = .ok (.iconst 1, 1) := by decide +kernel
theorem dX10_takes_63 : decode cX10_takes 63 = .ok (.goto 4, 3) := by decide +kernel
theorem dX10_takes_66 : decode cX10_takes 66 = .ok (.iconst 0, 1) := by decide +kernel
theorem dX10_takes_67 : decode cX10_takes 67 = .ok (.istore_n 2, 1) := by decide +kernel
theorem dX10_takes_68 : decode cX10_takes 68 = .ok (.aload_n 0, 1) := by decide +kernel
theorem dX10_takes_69 : decode cX10_takes 69 = .ok (.aload_n 0, 1) := by decide +kernel
theorem dX10_takes_70 : decode cX10_takes 70 = .ok (.getfield 75, 3) := by decide +kernel
theorem dX10_takes_73 : decode cX10_takes 73 = .ok (.ifCond .ne 7, 3) := by decide +kernel
theorem dX10_takes_76 : decode cX10_takes 76 = .ok (.iload_n 2, 1) := by decide +kernel
theorem dX10_takes_77 : decode cX10_takes 77 = .ok (.ifCond .eq 7, 3) := by decide +kernel
theorem dX10_takes_80 : decode cX10_takes 80 = .ok (.iconst 1, 1) := by decide +kernel
theorem dX10_takes_81 : decode cX10_takes 81 = .ok (.goto 4, 3) := by decide +kernel
theorem dX10_takes_84 : decode cX10_takes 84 = .ok (.iconst 0, 1) := by decide +kernel
theorem dX10_takes_85 : decode cX10_takes 85 = .ok (.putfield 75, 3) := by decide +kernel
theorem dX10_takes_88 : decode cX10_takes 88 = .ok (.iload_n 2, 1) := by decide +kernel
theorem dX10_takes_89 : decode cX10_takes 89 = .ok (.ireturn, 1) := by decide +kernel
theorem dX10_takes_90 : decode cX10_takes 90 = .ok (.iload_n 1, 1) := by decide +kernel
theorem dX10_takes_91 : decode cX10_takes 91 = .ok (.bipush 59, 2) := by decide +kernel
theorem dX10_takes_93 : decode cX10_takes 93 = .ok (.if_icmp .ne 14, 3) := by decide +kernel
theorem dX10_takes_96 : decode cX10_takes 96 = .ok (.aload_n 0, 1) := by decide +kernel
theorem dX10_takes_97 : decode cX10_takes 97 = .ok (.invokevirtual 91, 3) := by decide +kernel
theorem dX10_takes_100 : decode cX10_takes 100 = .ok (.ifCond .eq 7, 3) := by decide +kernel
theorem dX10_takes_103 : decode cX10_takes 103 = .ok (.iconst 1, 1) := by decide +kernel
theorem dX10_takes_104 : decode cX10_takes 104 = .ok (.goto 4, 3) := by decide +kernel
theorem dX10_takes_107 : decode cX10_takes 107 = .ok (.iconst 0, 1) := by decide +kernel
theorem dX10_takes_108 : decode cX10_takes 108 = .ok (.ireturn, 1) := by decide +kernel
set_option maxRecDepth 20000 in
theorem ggX10_does_X10_holdAtMost : GoodIn wsX10_does wsX10_holdAtMost := goodIn_r _ [15, 16, 8, 17, 137, 138, 139, 140, 141, 142, 143, 144, 145, 146, 147, 148, 149, 150, 151, 152, 153, 154, 155, 156, 157, 158, 159, 160, 161, 162, 163, 164, 165, 166, 167, 168, 169, 170, 171, 172, 173, 174, 175, 176, 177, 178, 179, 180, 181, 182, 183, 184, 185] (by decide +kernel) (by decide +kernel)
set_option maxRecDepth 20000 in
theorem gX10_does_X10_holdAtMost : GoodIn wsX10_does (wsV RX10 98 RX10 yX10_holdAtMost wsX10_holdAtMost) := goodIn_app (goodIn_of _ (by decide +kernel)) ggX10_does_X10_holdAtMost
set_option maxRecDepth 20000 in
theorem ggX10_does_X10_goNow : GoodIn wsX10_does wsX10_goNow := goodIn_r _ [21, 22, 23, 24, 14, 25, 26, 27, 28, 7, 29, 5, 30, 4, 31, 32, 33, 34, 35, 36, 37, 38, 39, 40, 41, 6, 42, 43, 44, 45, 46, 47, 48, 49, 50, 51, 52, 53, 54, 55, 56, 57, 58, 59, 60, 61, 62, 63, 64, 65, 66, 67, 68, 69, 70, 71, 72, 73, 74, 75, 76, 77, 78, 79, 80, 81, 82, 83, 84, 85, 86, 87, 88, 89, 90, 91, 92, 10, 93, 94, 95, 96, 97, 98, 99, 100, 101, 102, 103, 104, 105, 106, 107, 108, 109, 110, 111, 112, 113, 114, 115, 116, 117, 118, 119, 120, 121, 122, 123, 124, 125, 16, 9, 126, 17, 127, 128, 129, 130, 11, 12, 13, 15, 8, 131, 132, 133, 134, 135, 136, 137, 138, 139, 140, 141, 142, 143, 144, 145, 146, 147, 148, 149, 150, 151, 152, 153, 154, 155, 156, 157, 158, 159, 160, 161, 162, 163, 164, 165, 166, 167, 168, 169, 170, 171, 172, 173, 174, 175, 176, 177, 178, 179, 180, 181, 182, 183, 184, 185] (by decide +kernel) (by decide +kernel)
set_option maxRecDepth 20000 in
theorem gX10_does_X10_goNow : GoodIn wsX10_does (wsV RX10 107 RX10 yX10_goNow wsX10_goNow) := goodIn_app (goodIn_of _ (by decide +kernel)) ggX10_does_X10_goNow
theorem dX10_does_0 : decode cX10_does 0 = .ok (.aload_n 0, 1) := by decide +kernel
theorem dX10_does_1 : decode cX10_does 1 = .ok (.getfield 75, 3) := by decide +kernel
theorem dX10_does_4 : decode cX10_does 4 = .ok (.ifCond .eq 11, 3) := by decide +kernel
theorem dX10_does_7 : decode cX10_does 7 = .ok (.aload_n 0, 1) := by decide +kernel
theorem dX10_does_8 : decode cX10_does 8 = .ok (.getfield 72, 3) := by decide +kernel
theorem dX10_does_11 : decode cX10_does 11 = .ok (.ineg, 1) := by decide +kernel
theorem dX10_does_12 : decode cX10_does 12 = .ok (.goto 7, 3) := by decide +kernel
theorem dX10_does_15 : decode cX10_does 15 = .ok (.aload_n 0, 1) := by decide +kernel
theorem dX10_does_16 : decode cX10_does 16 = .ok (.getfield 72, 3) := by decide +kernel
theorem dX10_does_19 : decode cX10_does 19 = .ok (.istore_n 1, 1) := by decide +kernel
theorem dX10_does_20 : decode cX10_does 20 = .ok (.aload_n 0, 1) := by decide +kernel
theorem dX10_does_21 : decode cX10_does 21 = .ok (.getfield 66, 3) := by decide +kernel
theorem dX10_does_24 : decode cX10_does 24 = .ok (.lookupswitch 133 #[(65, 89), (68, 125), (70, 105), (78, 68), (82, 76), (87, 117), (90, 97)], 68) := by decide +kernel
theorem dX10_does_92 : decode cX10_does 92 = .ok (.aload_n 0, 1) := by decide +kernel
theorem dX10_does_93 : decode cX10_does 93 = .ok (.iload_n 1, 1) := by decide +kernel
theorem dX10_does_94 : decode cX10_does 94 = .ok (.putfield 17, 3) := by decide +kernel
theorem dX10_does_97 : decode cX10_does 97 = .ok (.goto 66, 3) := by decide +kernel
theorem dX10_does_100 : decode cX10_does 100 = .ok (.aload_n 0, 1) := by decide +kernel
theorem dX10_does_101 : decode cX10_does 101 = .ok (.iload_n 1, 1) := by decide +kernel
theorem dX10_does_102 : decode cX10_does 102 = .ok (.putfield 95, 3) := by decide +kernel
theorem dX10_does_105 : decode cX10_does 105 = .ok (.aload_n 0, 1) := by decide +kernel
theorem dX10_does_106 : decode cX10_does 106 = .ok (.iconst 0, 1) := by decide +kernel
theorem dX10_does_107 : decode cX10_does 107 = .ok (.putfield 13, 3) := by decide +kernel
theorem dX10_does_110 : decode cX10_does 110 = .ok (.goto 53, 3) := by decide +kernel
theorem dX10_does_113 : decode cX10_does 113 = .ok (.aload_n 0, 1) := by decide +kernel
theorem dX10_does_114 : decode cX10_does 114 = .ok (.iconst 1, 1) := by decide +kernel
theorem dX10_does_115 : decode cX10_does 115 = .ok (.putfield 13, 3) := by decide +kernel
theorem dX10_does_118 : decode cX10_does 118 = .ok (.goto 45, 3) := by decide +kernel
theorem dX10_does_121 : decode cX10_does 121 = .ok (.aload_n 0, 1) := by decide +kernel
theorem dX10_does_122 : decode cX10_does 122 = .ok (.iload_n 1, 1) := by decide +kernel
theorem dX10_does_123 : decode cX10_does 123 = .ok (.putfield 21, 3) := by decide +kernel
theorem dX10_does_126 : decode cX10_does 126 = .ok (.goto 37, 3) := by decide +kernel
theorem dX10_does_129 : decode cX10_does 129 = .ok (.aload_n 0, 1) := by decide +kernel
theorem dX10_does_130 : decode cX10_does 130 = .ok (.iload_n 1, 1) := by decide +kernel
theorem dX10_does_131 : decode cX10_does 131 = .ok (.putfield 24, 3) := by decide +kernel
theorem dX10_does_134 : decode cX10_does 134 = .ok (.aload_n 0, 1) := by decide +kernel
theorem dX10_does_135 : decode cX10_does 135 = .ok (.invokevirtual 98, 3) := by decide +kernel
theorem dX10_does_138 : decode cX10_does 138 = .ok (.goto 25, 3) := by decide +kernel
theorem dX10_does_141 : decode cX10_does 141 = .ok (.aload_n 0, 1) := by decide +kernel
theorem dX10_does_142 : decode cX10_does 142 = .ok (.iload_n 1, 1) := by decide +kernel
theorem dX10_does_143 : decode cX10_does 143 = .ok (.putfield 101, 3) := by decide +kernel
theorem dX10_does_146 : decode cX10_does 146 = .ok (.goto 17, 3) := by decide +kernel
theorem dX10_does_149 : decode cX10_does 149 = .ok (.aload_n 0, 1) := by decide +kernel
theorem dX10_does_150 : decode cX10_does 150 = .ok (.iload_n 1, 1) := by decide +kernel
theorem dX10_does_151 : decode cX10_does 151 = .ok (.putfield 104, 3) := by decide +kernel
theorem dX10_does_154 : decode cX10_does 154 = .ok (.goto 9, 3) := by decide +kernel
theorem dX10_does_157 : decode cX10_does 157 = .ok (.aload_n 0, 1) := by decide +kernel
theorem dX10_does_158 : decode cX10_does 158 = .ok (.iload_n 1, 1) := by decide +kernel
theorem dX10_does_159 : decode cX10_does 159 = .ok (.invokevirtual 107, 3) := by decide +kernel
theorem dX10_does_162 : decode cX10_does 162 = .ok (.pop, 1) := by decide +kernel
theorem dX10_does_163 : decode cX10_does 163 = .ok (.return_, 1) := by decide +kernel
set_option maxRecDepth 20000 in
theorem ggX10_goAlong_X10_takes : GoodIn wsX10_goAlong wsX10_takes := goodIn_r _ [8, 1, 9, 10, 11, 12, 13, 7, 14, 15, 16, 17, 18, 19, 20, 21, 22, 23, 24, 25, 26, 27, 28, 29, 30, 31, 32, 33, 34, 35, 36, 37, 38, 175, 176, 177, 178, 179, 180, 181, 182, 183, 184, 185, 186, 187, 188, 189, 190, 191, 192, 193, 194, 195, 196, 197, 198, 199, 200, 201, 202, 203, 204, 205, 206, 207, 208, 209, 210, 211, 212, 213, 214, 215, 216, 217, 218, 219, 220, 221, 222, 223] (by decide +kernel) (by decide +kernel)
set_option maxRecDepth 20000 in
theorem gX10_goAlong_X10_takes : GoodIn wsX10_goAlong (wsV RX10 110 RX10 yX10_takes wsX10_takes) := goodIn_app (goodIn_of _ (by decide +kernel)) ggX10_goAlong_X10_takes
set_option maxRecDepth 20000 in
theorem ggX10_goAlong_X10_does : GoodIn wsX10_goAlong wsX10_does := goodIn_r _ [42, 10, 15, 1, 43, 44, 45, 46, 47, 48, 49, 50, 51, 52, 7, 53, 54, 55, 56, 57, 58, 59, 60, 61, 62, 63, 64, 65, 66, 67, 68, 69, 70, 71, 72, 73, 74, 75, 76, 77, 78, 79, 80, 81, 82, 83, 84, 85, 86, 87, 88, 89, 90, 91, 92, 93, 94, 95, 96, 97, 98, 99, 100, 101, 102, 103, 104, 105, 106, 107, 108, 109, 110, 111, 112, 113, 114, 115, 116, 117, 118, 119, 120, 121, 122, 123, 124, 125, 126, 127, 128, 129, 130, 131, 132, 133, 134, 135, 136, 137, 138, 139, 140, 141, 142, 143, 144, 145, 146, 147, 148, 149, 150, 151, 152, 153, 154, 155, 156, 157, 158, 159, 160, 161, 162, 163, 164, 165, 166, 167, 168, 169, 170, 171, 172, 173, 174, 175, 176, 177, 178, 179, 180, 181, 182, 183, 184, 185, 186, 187, 188, 189, 190, 191, 192, 193, 194, 195, 196, 197, 198, 199, 200, 201, 202, 203, 204, 205, 206, 207, 208, 209, 210, 211, 212, 213, 214, 215, 216, 217, 218, 219, 220, 221, 222, 223] (by decide +kernel) (by decide +kernel)
set_option maxRecDepth 20000 in
theorem gX10_goAlong_X10_does : GoodIn wsX10_goAlong (wsV RX10 113 RX10 yX10_does wsX10_does) := goodIn_app (goodIn_of _ (by decide +kernel)) ggX10_goAlong_X10_does
theorem dX10_goAlong_0 : decode cX10_goAlong 0 = .ok (.aload_n 0, 1) := by decide +kernel
theorem dX10_goAlong_1 : decode cX10_goAlong 1 = .ok (.iconst 0, 1) := by decide +kernel
theorem dX10_goAlong_2 : decode cX10_goAlong 2 = .ok (.putfield 66, 3) := by decide +kernel
theorem dX10_goAlong_5 : decode cX10_goAlong 5 = .ok (.iconst 0, 1) := by decide +kernel
theorem dX10_goAlong_6 : decode cX10_goAlong 6 = .ok (.istore_n 2, 1) := by decide +kernel
theorem dX10_goAlong_7 : decode cX10_goAlong 7 = .ok (.iload_n 2, 1) := by decide +kernel
theorem dX10_goAlong_8 : decode cX10_goAlong 8 = .ok (.aload_n 0, 1) := by decide +kernel
theorem dX10_goAlong_9 : decode cX10_goAlong 9 = .ok (.getfield 55, 3) := by decide +kernel
theorem dX10_goAlong_12 : decode cX10_goAlong 12 = .ok (.if_icmp .ge 46, 3) := by decide +kernel
theorem dX10_goAlong_15 : decode cX10_goAlong 15 = .ok (.aload_n 0, 1) := by decide +kernel
theorem dX10_goAlong_16 : decode cX10_goAlong 16 = .ok (.aload_n 0, 1) := by decide +kernel
theorem dX10_goAlong_17 : decode cX10_goAlong 17 = .ok (.getfield 47, 3) := by decide +kernel
theorem dX10_goAlong_20 : decode cX10_goAlong 20 = .ok (.iload_n 2, 1) := by decide +kernel
theorem dX10_goAlong_21 : decode cX10_goAlong 21 = .ok (.iaload, 1) := by decide +kernel
theorem dX10_goAlong_22 : decode cX10_goAlong 22 = .ok (.invokevirtual 110, 3) := by decide +kernel
theorem dX10_goAlong_25 : decode cX10_goAlong 25 = .ok (.ifCond .eq 33, 3) := by decide +kernel
theorem dX10_goAlong_28 : decode cX10_goAlong 28 = .ok (.aload_n 0, 1) := by decide +kernel
theorem dX10_goAlong_29 : decode cX10_goAlong 29 = .ok (.getfield 47, 3) := by decide +kernel
theorem dX10_goAlong_32 : decode cX10_goAlong 32 = .ok (.iload_n 2, 1) := by decide +kernel
theorem dX10_goAlong_33 : decode cX10_goAlong 33 = .ok (.iaload, 1) := by decide +kernel
theorem dX10_goAlong_34 : decode cX10_goAlong 34 = .ok (.bipush 59, 2) := by decide +kernel
theorem dX10_goAlong_36 : decode cX10_goAlong 36 = .ok (.if_icmp .ne 16, 3) := by decide +kernel
theorem dX10_goAlong_39 : decode cX10_goAlong 39 = .ok (.iload_n 1, 1) := by decide +kernel
theorem dX10_goAlong_40 : decode cX10_goAlong 40 = .ok (.ifCond .eq 7, 3) := by decide +kernel
theorem dX10_goAlong_43 : decode cX10_goAlong 43 = .ok (.aload_n 0, 1) := by decide +kernel
theorem dX10_goAlong_44 : decode cX10_goAlong 44 = .ok (.invokevirtual 113, 3) := by decide +kernel
theorem dX10_goAlong_47 : decode cX10_goAlong 47 = .ok (.aload_n 0, 1) := by decide +kernel
theorem dX10_goAlong_48 : decode cX10_goAlong 48 = .ok (.iconst 0, 1) := by decide +kernel
theorem dX10_goAlong_49 : decode cX10_goAlong 49 = .ok (.putfield 66, 3) := by decide +kernel
theorem dX10_goAlong_52 : decode cX10_goAlong 52 = .ok (.iinc 2 1, 3) := by decide +kernel
theorem dX10_goAlong_55 : decode cX10_goAlong 55 = .ok (.goto (-48), 3) := by decide +kernel
theorem dX10_goAlong_58 : decode cX10_goAlong 58 = .ok (.iload_n 2, 1) := by decide +kernel
theorem dX10_goAlong_59 : decode cX10_goAlong 59 = .ok (.ireturn, 1) := by decide +kernel
set_option maxRecDepth 20000 in
theorem ggX10_fault_X10_goAlong : GoodIn wsX10_fault wsX10_goAlong := goodIn_r _ [5, 6, 7, 8, 9, 10, 11, 4, 12, 13, 14, 15, 16, 17, 18, 19, 20, 21, 22, 23, 24, 25, 26, 27, 28, 29, 30, 31, 32, 33, 34, 35, 36, 37, 38, 39, 40, 41, 42, 43, 44, 45, 46, 47, 48, 49, 50, 51, 52, 53, 54, 55, 56, 57, 58, 59, 60, 61, 62, 63, 64, 65, 66, 67, 68, 69, 70, 71, 72, 73, 74, 75, 76, 77, 78, 79, 80, 81, 82, 83, 84, 85, 86, 87, 88, 89, 90, 91, 92, 93, 94, 95, 96, 97, 98, 99, 100, 101, 102, 103, 104, 105, 106, 107, 108, 109, 110, 111, 112, 113, 114, 115, 116, 117, 118, 119, 120, 121, 122, 123, 124, 125, 126, 127, 128, 129, 130, 131, 132, 133, 134, 135, 136, 137, 138, 139, 140, 141, 142, 143, 144, 145, 146, 147, 148, 149, 150, 151, 152, 153, 154, 155, 156, 157, 158, 159, 160, 161, 162, 163, 164, 165, 166, 167, 168, 169, 170, 171, 172, 173, 174, 175, 176, 177, 178, 179, 180, 181, 182, 183, 184, 185, 186, 187, 188, 189, 190, 191, 192, 193, 194, 195, 196, 197, 198, 199, 200, 201, 202, 203, 204, 205, 206, 207, 208, 209, 210, 211, 212, 213, 214, 215, 216, 217, 218, 219, 220, 221, 222, 223, 224, 225, 226, 227] (by decide +kernel) (by decide +kernel)
set_option maxRecDepth 20000 in
theorem gX10_fault_X10_goAlong : GoodIn wsX10_fault (wsV RX10 116 RX10 yX10_goAlong wsX10_goAlong) := goodIn_app (goodIn_of _ (by decide +kernel)) ggX10_fault_X10_goAlong
theorem dX10_fault_0 : decode cX10_fault 0 = .ok (.aload_n 0, 1) := by decide +kernel
theorem dX10_fault_1 : decode cX10_fault 1 = .ok (.iconst 0, 1) := by decide +kernel
theorem dX10_fault_2 : decode cX10_fault 2 = .ok (.invokevirtual 116, 3) := by decide +kernel
theorem dX10_fault_5 : decode cX10_fault 5 = .ok (.ireturn, 1) := by decide +kernel
set_option maxRecDepth 20000 in
theorem ggX10_set_X10_goAlong : GoodIn wsX10_set wsX10_goAlong := goodIn_r _ [9, 10, 1, 11, 12, 13, 14, 8, 15, 16, 17, 18, 19, 20, 21, 22, 23, 24, 25, 26, 27, 28, 29, 30, 31, 32, 33, 34, 35, 36, 37, 38, 39, 40, 41, 42, 43, 44, 45, 46, 47, 48, 49, 50, 51, 52, 53, 54, 55, 56, 57, 58, 59, 60, 61, 62, 63, 64, 65, 66, 67, 68, 69, 70, 3, 71, 72, 73, 74, 75, 76, 77, 78, 79, 80, 81, 82, 83, 84, 85, 86, 87, 88, 89, 90, 91, 92, 93, 94, 95, 96, 97, 98, 99, 100, 101, 102, 103, 104, 105, 106, 107, 108, 109, 110, 111, 112, 113, 114, 115, 116, 117, 118, 119, 120, 121, 122, 123, 124, 125, 126, 127, 128, 129, 130, 131, 132, 133, 134, 135, 136, 137, 138, 139, 140, 141, 142, 143, 144, 145, 146, 147, 148, 149, 150, 151, 152, 153, 154, 155, 156, 157, 158, 159, 160, 161, 162, 163, 164, 165, 166, 167, 168, 169, 170, 171, 172, 173, 174, 175, 176, 177, 178, 179, 180, 181, 182, 183, 184, 185, 186, 187, 188, 189, 190, 191, 192, 193, 194, 195, 196, 197, 198, 199, 200, 201, 202, 203, 204, 205, 206, 207, 208, 209, 210, 211, 212, 213, 214, 215, 216, 217, 218, 219, 220, 221, 222, 223, 224, 225, 226, 227, 228, 229] (by decide +kernel) (by decide +kernel)
set_option maxRecDepth 20000 in
theorem gX10_set_X10_goAlong : GoodIn wsX10_set (wsV RX10 116 RX10 yX10_goAlong wsX10_goAlong) := goodIn_app (goodIn_of _ (by decide +kernel)) ggX10_set_X10_goAlong
set_option maxRecDepth 20000 in
theorem ggX10_set_X10_isWhole : GoodIn wsX10_set wsX10_isWhole := goodIn_r _ [41, 10, 16, 17, 22, 42, 43, 8, 44, 45, 181, 182, 183, 184, 185, 186, 187, 188, 189, 190, 191, 192, 193, 194, 195, 196, 197, 198, 199, 200, 201, 202, 203, 204, 205, 206, 207, 208, 209, 210, 211, 212, 213, 214, 215, 216, 217, 218, 219, 220, 221, 222, 223, 224, 225, 226, 227, 228, 229] (by decide +kernel) (by decide +kernel)
set_option maxRecDepth 20000 in
theorem gX10_set_X10_isWhole : GoodIn wsX10_set (wsV RX10 91 RX10 yX10_isWhole wsX10_isWhole) := goodIn_app (goodIn_of _ (by decide +kernel)) ggX10_set_X10_isWhole
set_option maxRecDepth 20000 in
theorem ggX10_set_X10_does : GoodIn wsX10_set wsX10_does := goodIn_r _ [49, 17, 22, 10, 50, 51, 52, 53, 54, 55, 56, 57, 58, 59, 8, 60, 61, 62, 63, 64, 65, 66, 67, 68, 69, 70, 3, 71, 72, 73, 74, 75, 76, 77, 78, 79, 80, 81, 82, 83, 84, 85, 86, 87, 88, 89, 90, 91, 92, 93, 94, 95, 96, 97, 98, 99, 100, 101, 102, 103, 104, 105, 106, 107, 108, 109, 110, 111, 112, 113, 114, 115, 116, 117, 118, 119, 120, 121, 122, 123, 124, 125, 126, 127, 128, 129, 130, 131, 132, 133, 134, 135, 136, 137, 138, 139, 140, 141, 142, 143, 144, 145, 146, 147, 148, 149, 150, 151, 152, 153, 154, 155, 156, 157, 158, 159, 160, 161, 162, 163, 164, 165, 166, 167, 168, 169, 170, 171, 172, 173, 174, 175, 176, 177, 178, 179, 180, 181, 182, 183, 184, 185, 186, 187, 188, 189, 190, 191, 192, 193, 194, 195, 196, 197, 198, 199, 200, 201, 202, 203, 204, 205, 206, 207, 208, 209, 210, 211, 212, 213, 214, 215, 216, 217, 218, 219, 220, 221, 222, 223, 224, 225, 226, 227, 228, 229] (by decide +kernel) (by decide +kernel)
set_option maxRecDepth 20000 in
theorem gX10_set_X10_does : GoodIn wsX10_set (wsV RX10 113 RX10 yX10_does wsX10_does) := goodIn_app (goodIn_of _ (by decide +kernel)) ggX10_set_X10_does
theorem dX10_set_0 : decode cX10_set 0 = .ok (.aload_n 0, 1) := by decide +kernel
theorem dX10_set_1 : decode cX10_set 1 = .ok (.iconst 0, 1) := by decide +kernel
theorem dX10_set_2 : decode cX10_set 2 = .ok (.invokevirtual 116, 3) := by decide +kernel
theorem dX10_set_5 : decode cX10_set 5 = .ok (.aload_n 0, 1) := by decide +kernel
theorem dX10_set_6 : decode cX10_set 6 = .ok (.getfield 55, 3) := by decide +kernel
theorem dX10_set_9 : decode cX10_set 9 = .ok (.if_icmp .lt 10, 3) := by decide +kernel
theorem dX10_set_12 : decode cX10_set 12 = .ok (.aload_n 0, 1) := by decide +kernel
theorem dX10_set_13 : decode cX10_set 13 = .ok (.invokevirtual 91, 3) := by decide +kernel
theorem dX10_set_16 : decode cX10_set 16 = .ok (.ifCond .ne 6, 3) := by decide +kernel
theorem dX10_set_19 : decode cX10_set 19 = .ok (.ldc 120, 2) := by decide +kernel
theorem dX10_set_21 : decode cX10_set 21 = .ok (.ireturn, 1) := by decide +kernel
theorem dX10_set_22 : decode cX10_set 22 = .ok (.aload_n 0, 1) := by decide +kernel
theorem dX10_set_23 : decode cX10_set 23 = .ok (.getfield 121, 3) := by decide +kernel
theorem dX10_set_26 : decode cX10_set 26 = .ok (.istore_n 1, 1) := by decide +kernel
theorem dX10_set_27 : decode cX10_set 27 = .ok (.aload_n 0, 1) := by decide +kernel
theorem dX10_set_28 : decode cX10_set 28 = .ok (.iconst 1, 1) := by decide +kernel
theorem dX10_set_29 : decode cX10_set 29 = .ok (.invokevirtual 116, 3) := by decide +kernel
theorem dX10_set_32 : decode cX10_set 32 = .ok (.pop, 1) := by decide +kernel
theorem dX10_set_33 : decode cX10_set 33 = .ok (.aload_n 0, 1) := by decide +kernel
theorem dX10_set_34 : decode cX10_set 34 = .ok (.invokevirtual 113, 3) := by decide +kernel
theorem dX10_set_37 : decode cX10_set 37 = .ok (.aload_n 0, 1) := by decide +kernel
theorem dX10_set_38 : decode cX10_set 38 = .ok (.dup, 1) := by decide +kernel
theorem dX10_set_39 : decode cX10_set 39 = .ok (.getfield 124, 3) := by decide +kernel
theorem dX10_set_42 : decode cX10_set 42 = .ok (.iconst 1, 1) := by decide +kernel
theorem dX10_set_43 : decode cX10_set 43 = .ok (.iadd, 1) := by decide +kernel
theorem dX10_set_44 : decode cX10_set 44 = .ok (.putfield 124, 3) := by decide +kernel
theorem dX10_set_47 : decode cX10_set 47 = .ok (.aload_n 0, 1) := by decide +kernel
theorem dX10_set_48 : decode cX10_set 48 = .ok (.iconst 0, 1) := by decide +kernel
theorem dX10_set_49 : decode cX10_set 49 = .ok (.putfield 55, 3) := by decide +kernel
theorem dX10_set_52 : decode cX10_set 52 = .ok (.aload_n 0, 1) := by decide +kernel
theorem dX10_set_53 : decode cX10_set 53 = .ok (.getfield 121, 3) := by decide +kernel
theorem dX10_set_56 : decode cX10_set 56 = .ok (.iload_n 1, 1) := by decide +kernel
theorem dX10_set_57 : decode cX10_set 57 = .ok (.isub, 1) := by decide +kernel
theorem dX10_set_58 : decode cX10_set 58 = .ok (.ireturn, 1) := by decide +kernel
set_option maxRecDepth 20000 in
theorem ggX10_dc_X10_within : GoodIn wsX10_dc wsX10_within := goodIn_r _ [8] (by decide +kernel) (by decide +kernel)
set_option maxRecDepth 20000 in
theorem gX10_dc_X10_within : GoodIn wsX10_dc (va_wsS RX10 50 yX10_within wsX10_within) := goodIn_app (goodIn_of _ (by decide +kernel)) ggX10_dc_X10_within
theorem dX10_dc_0 : decode cX10_dc 0 = .ok (.iload_n 1, 1) := by decide +kernel
theorem dX10_dc_1 : decode cX10_dc 1 = .ok (.ldc 59, 2) := by decide +kernel
theorem dX10_dc_3 : decode cX10_dc 3 = .ok (.ldc 61, 2) := by decide +kernel
theorem dX10_dc_5 : decode cX10_dc 5 = .ok (.invokestatic 50, 3) := by decide +kernel
theorem dX10_dc_8 : decode cX10_dc 8 = .ok (.ifCond .ne 6, 3) := by decide +kernel
theorem dX10_dc_11 : decode cX10_dc 11 = .ok (.ldc 54, 2) := by decide +kernel
theorem dX10_dc_13 : decode cX10_dc 13 = .ok (.ireturn, 1) := by decide +kernel
theorem dX10_dc_14 : decode cX10_dc 14 = .ok (.aload_n 0, 1) := by decide +kernel
theorem dX10_dc_15 : decode cX10_dc 15 = .ok (.getfield 104, 3) := by decide +kernel
theorem dX10_dc_18 : decode cX10_dc 18 = .ok (.istore_n 2, 1) := by decide +kernel
theorem dX10_dc_19 : decode cX10_dc 19 = .ok (.aload_n 0, 1) := by decide +kernel
theorem dX10_dc_20 : decode cX10_dc 20 = .ok (.iload_n 1, 1) := by decide +kernel
theorem dX10_dc_21 : decode cX10_dc 21 = .ok (.putfield 104, 3) := by decide +kernel
theorem dX10_dc_24 : decode cX10_dc 24 = .ok (.iload_n 2, 1) := by decide +kernel
theorem dX10_dc_25 : decode cX10_dc 25 = .ok (.ireturn, 1) := by decide +kernel
set_option maxRecDepth 20000 in
theorem ggX10_hum_X10_within : GoodIn wsX10_hum wsX10_within := goodIn_r _ [8] (by decide +kernel) (by decide +kernel)
set_option maxRecDepth 20000 in
theorem gX10_hum_X10_within : GoodIn wsX10_hum (va_wsS RX10 50 yX10_within wsX10_within) := goodIn_app (goodIn_of _ (by decide +kernel)) ggX10_hum_X10_within
theorem dX10_hum_0 : decode cX10_hum 0 = .ok (.iload_n 1, 1) := by decide +kernel
theorem dX10_hum_1 : decode cX10_hum 1 = .ok (.iconst 0, 1) := by decide +kernel
theorem dX10_hum_2 : decode cX10_hum 2 = .ok (.ldc 127, 2) := by decide +kernel
theorem dX10_hum_4 : decode cX10_hum 4 = .ok (.invokestatic 50, 3) := by decide +kernel
theorem dX10_hum_7 : decode cX10_hum 7 = .ok (.ifCond .eq 12, 3) := by decide +kernel
theorem dX10_hum_10 : decode cX10_hum 10 = .ok (.iload_n 2, 1) := by decide +kernel
theorem dX10_hum_11 : decode cX10_hum 11 = .ok (.iconst 0, 1) := by decide +kernel
theorem dX10_hum_12 : decode cX10_hum 12 = .ok (.iconst 2, 1) := by decide +kernel
theorem dX10_hum_13 : decode cX10_hum 13 = .ok (.invokestatic 50, 3) := by decide +kernel
theorem dX10_hum_16 : decode cX10_hum 16 = .ok (.ifCond .ne 6, 3) := by decide +kernel
theorem dX10_hum_19 : decode cX10_hum 19 = .ok (.ldc 54, 2) := by decide +kernel
theorem dX10_hum_21 : decode cX10_hum 21 = .ok (.ireturn, 1) := by decide +kernel
theorem dX10_hum_22 : decode cX10_hum 22 = .ok (.aload_n 0, 1) := by decide +kernel
theorem dX10_hum_23 : decode cX10_hum 23 = .ok (.getfield 128, 3) := by decide +kernel
theorem dX10_hum_26 : decode cX10_hum 26 = .ok (.istore_n 3, 1) := by decide +kernel
theorem dX10_hum_27 : decode cX10_hum 27 = .ok (.aload_n 0, 1) := by decide +kernel
theorem dX10_hum_28 : decode cX10_hum 28 = .ok (.iload_n 1, 1) := by decide +kernel
theorem dX10_hum_29 : decode cX10_hum 29 = .ok (.putfield 128, 3) := by decide +kernel
theorem dX10_hum_32 : decode cX10_hum 32 = .ok (.aload_n 0, 1) := by decide +kernel
theorem dX10_hum_33 : decode cX10_hum 33 = .ok (.iload_n 2, 1) := by decide +kernel
theorem dX10_hum_34 : decode cX10_hum 34 = .ok (.putfield 131, 3) := by decide +kernel
theorem dX10_hum_37 : decode cX10_hum 37 = .ok (.iload_n 3, 1) := by decide +kernel
theorem dX10_hum_38 : decode cX10_hum 38 = .ok (.ireturn, 1) := by decide +kernel
set_option maxRecDepth 20000 in
theorem ggX10_noise_X10_within : GoodIn wsX10_noise wsX10_within := goodIn_r _ [6] (by decide +kernel) (by decide +kernel)
set_option maxRecDepth 20000 in
theorem gX10_noise_X10_within : GoodIn wsX10_noise (va_wsS RX10 50 yX10_within wsX10_within) := goodIn_app (goodIn_of _ (by decide +kernel)) ggX10_noise_X10_within
theorem dX10_noise_0 : decode cX10_noise 0 = .ok (.iload_n 1, 1) := by decide +kernel
theorem dX10_noise_1 : decode cX10_noise 1 = .ok (.iconst 0, 1) := by decide +kernel
theorem dX10_noise_2 : decode cX10_noise 2 = .ok (.sipush 10000, 3) := by decide +kernel
theorem dX10_noise_5 : decode cX10_noise 5 = .ok (.invokestatic 50, 3) := by decide +kernel
theorem dX10_noise_8 : decode cX10_noise 8 = .ok (.ifCond .ne 6, 3) := by decide +kernel
theorem dX10_noise_11 : decode cX10_noise 11 = .ok (.ldc 54, 2) := by decide +kernel
theorem dX10_noise_13 : decode cX10_noise 13 = .ok (.ireturn, 1) := by decide +kernel
theorem dX10_noise_14 : decode cX10_noise 14 = .ok (.aload_n 0, 1) := by decide +kernel
theorem dX10_noise_15 : decode cX10_noise 15 = .ok (.getfield 134, 3) := by decide +kernel
theorem dX10_noise_18 : decode cX10_noise 18 = .ok (.istore_n 2, 1) := by decide +kernel
theorem dX10_noise_19 : decode cX10_noise 19 = .ok (.aload_n 0, 1) := by decide +kernel
theorem dX10_noise_20 : decode cX10_noise 20 = .ok (.iload_n 1, 1) := by decide +kernel
theorem dX10_noise_21 : decode cX10_noise 21 = .ok (.putfield 134, 3) := by decide +kernel
theorem dX10_noise_24 : decode cX10_noise 24 = .ok (.iload_n 2, 1) := by decide +kernel
theorem dX10_noise_25 : decode cX10_noise 25 = .ok (.ireturn, 1) := by decide +kernel
theorem dX10_seed_0 : decode cX10_seed 0 = .ok (.iload_n 1, 1) := by decide +kernel
theorem dX10_seed_1 : decode cX10_seed 1 = .ok (.ifCond .ge 6, 3) := by decide +kernel
theorem dX10_seed_4 : decode cX10_seed 4 = .ok (.ldc 54, 2) := by decide +kernel
theorem dX10_seed_6 : decode cX10_seed 6 = .ok (.ireturn, 1) := by decide +kernel
theorem dX10_seed_7 : decode cX10_seed 7 = .ok (.aload_n 0, 1) := by decide +kernel
theorem dX10_seed_8 : decode cX10_seed 8 = .ok (.getfield 7, 3) := by decide +kernel
theorem dX10_seed_11 : decode cX10_seed 11 = .ok (.l2i, 1) := by decide +kernel
theorem dX10_seed_12 : decode cX10_seed 12 = .ok (.istore_n 2, 1) := by decide +kernel
theorem dX10_seed_13 : decode cX10_seed 13 = .ok (.aload_n 0, 1) := by decide +kernel
theorem dX10_seed_14 : decode cX10_seed 14 = .ok (.iload_n 1, 1) := by decide +kernel
theorem dX10_seed_15 : decode cX10_seed 15 = .ok (.i2l, 1) := by decide +kernel
theorem dX10_seed_16 : decode cX10_seed 16 = .ok (.putfield 7, 3) := by decide +kernel
theorem dX10_seed_19 : decode cX10_seed 19 = .ok (.iload_n 2, 1) := by decide +kernel
theorem dX10_seed_20 : decode cX10_seed 20 = .ok (.ireturn, 1) := by decide +kernel
set_option maxRecDepth 20000 in
theorem ggX10_amplifier_X10_within : GoodIn wsX10_amplifier wsX10_within := goodIn_r _ [7] (by decide +kernel) (by decide +kernel)
set_option maxRecDepth 20000 in
theorem gX10_amplifier_X10_within : GoodIn wsX10_amplifier (va_wsS RX10 50 yX10_within wsX10_within) := goodIn_app (goodIn_of _ (by decide +kernel)) ggX10_amplifier_X10_within
theorem dX10_amplifier_0 : decode cX10_amplifier 0 = .ok (.iload_n 1, 1) := by decide +kernel
theorem dX10_amplifier_1 : decode cX10_amplifier 1 = .ok (.sipush (-2000), 3) := by decide +kernel
theorem dX10_amplifier_4 : decode cX10_amplifier 4 = .ok (.sipush 2000, 3) := by decide +kernel
theorem dX10_amplifier_7 : decode cX10_amplifier 7 = .ok (.invokestatic 50, 3) := by decide +kernel
theorem dX10_amplifier_10 : decode cX10_amplifier 10 = .ok (.ifCond .eq 14, 3) := by decide +kernel
theorem dX10_amplifier_13 : decode cX10_amplifier 13 = .ok (.iload_n 2, 1) := by decide +kernel
theorem dX10_amplifier_14 : decode cX10_amplifier 14 = .ok (.bipush (-50), 2) := by decide +kernel
theorem dX10_amplifier_16 : decode cX10_amplifier 16 = .ok (.bipush 50, 2) := by decide +kernel
theorem dX10_amplifier_18 : decode cX10_amplifier 18 = .ok (.invokestatic 50, 3) := by decide +kernel
theorem dX10_amplifier_21 : decode cX10_amplifier 21 = .ok (.ifCond .ne 6, 3) := by decide +kernel
theorem dX10_amplifier_24 : decode cX10_amplifier 24 = .ok (.ldc 54, 2) := by decide +kernel
theorem dX10_amplifier_26 : decode cX10_amplifier 26 = .ok (.ireturn, 1) := by decide +kernel
theorem dX10_amplifier_27 : decode cX10_amplifier 27 = .ok (.aload_n 0, 1) := by decide +kernel
theorem dX10_amplifier_28 : decode cX10_amplifier 28 = .ok (.getfield 137, 3) := by decide +kernel
theorem dX10_amplifier_31 : decode cX10_amplifier 31 = .ok (.istore_n 3, 1) := by decide +kernel
theorem dX10_amplifier_32 : decode cX10_amplifier 32 = .ok (.aload_n 0, 1) := by decide +kernel
theorem dX10_amplifier_33 : decode cX10_amplifier 33 = .ok (.iload_n 1, 1) := by decide +kernel
theorem dX10_amplifier_34 : decode cX10_amplifier 34 = .ok (.putfield 137, 3) := by decide +kernel
theorem dX10_amplifier_37 : decode cX10_amplifier 37 = .ok (.aload_n 0, 1) := by decide +kernel
theorem dX10_amplifier_38 : decode cX10_amplifier 38 = .ok (.iload_n 2, 1) := by decide +kernel
theorem dX10_amplifier_39 : decode cX10_amplifier 39 = .ok (.putfield 140, 3) := by decide +kernel
theorem dX10_amplifier_42 : decode cX10_amplifier 42 = .ok (.iload_n 3, 1) := by decide +kernel
theorem dX10_amplifier_43 : decode cX10_amplifier 43 = .ok (.ireturn, 1) := by decide +kernel
set_option maxRecDepth 20000 in
theorem ggX10_correct_X10_within : GoodIn wsX10_correct wsX10_within := goodIn_r _ [9] (by decide +kernel) (by decide +kernel)
set_option maxRecDepth 20000 in
theorem gX10_correct_X10_within : GoodIn wsX10_correct (va_wsS RX10 50 yX10_within wsX10_within) := goodIn_app (goodIn_of _ (by decide +kernel)) ggX10_correct_X10_within
theorem dX10_correct_0 : decode cX10_correct 0 = .ok (.iload_n 1, 1) := by decide +kernel
theorem dX10_correct_1 : decode cX10_correct 1 = .ok (.sipush (-1000), 3) := by decide +kernel
theorem dX10_correct_4 : decode cX10_correct 4 = .ok (.sipush 1000, 3) := by decide +kernel
theorem dX10_correct_7 : decode cX10_correct 7 = .ok (.invokestatic 50, 3) := by decide +kernel
theorem dX10_correct_10 : decode cX10_correct 10 = .ok (.ifCond .eq 14, 3) := by decide +kernel
theorem dX10_correct_13 : decode cX10_correct 13 = .ok (.iload_n 2, 1) := by decide +kernel
theorem dX10_correct_14 : decode cX10_correct 14 = .ok (.ldc 143, 2) := by decide +kernel
theorem dX10_correct_16 : decode cX10_correct 16 = .ok (.ldc 144, 2) := by decide +kernel
theorem dX10_correct_18 : decode cX10_correct 18 = .ok (.invokestatic 50, 3) := by decide +kernel
theorem dX10_correct_21 : decode cX10_correct 21 = .ok (.ifCond .ne 6, 3) := by decide +kernel
theorem dX10_correct_24 : decode cX10_correct 24 = .ok (.ldc 54, 2) := by decide +kernel
theorem dX10_correct_26 : decode cX10_correct 26 = .ok (.ireturn, 1) := by decide +kernel
theorem dX10_correct_27 : decode cX10_correct 27 = .ok (.aload_n 0, 1) := by decide +kernel
theorem dX10_correct_28 : decode cX10_correct 28 = .ok (.getfield 145, 3) := by decide +kernel
theorem dX10_correct_31 : decode cX10_correct 31 = .ok (.istore_n 3, 1) := by decide +kernel
theorem dX10_correct_32 : decode cX10_correct 32 = .ok (.aload_n 0, 1) := by decide +kernel
theorem dX10_correct_33 : decode cX10_correct 33 = .ok (.iload_n 1, 1) := by decide +kernel
theorem dX10_correct_34 : decode cX10_correct 34 = .ok (.putfield 145, 3) := by decide +kernel
theorem dX10_correct_37 : decode cX10_correct 37 = .ok (.aload_n 0, 1) := by decide +kernel
theorem dX10_correct_38 : decode cX10_correct 38 = .ok (.iload_n 2, 1) := by decide +kernel
theorem dX10_correct_39 : decode cX10_correct 39 = .ok (.putfield 148, 3) := by decide +kernel
theorem dX10_correct_42 : decode cX10_correct 42 = .ok (.iload_n 3, 1) := by decide +kernel
theorem dX10_correct_43 : decode cX10_correct 43 = .ok (.ireturn, 1) := by decide +kernel
theorem dX10_sine_0 : decode cX10_sine 0 = .ok (.iload_n 0, 1) := by decide +kernel
theorem dX10_sine_1 : decode cX10_sine 1 = .ok (.tableswitch 73 0 9 #[55, 57, 61, 65, 69, 73, 69, 65, 61, 57], 55) := by decide +kernel
theorem dX10_sine_56 : decode cX10_sine 56 = .ok (.iconst 0, 1) := by decide +kernel
theorem dX10_sine_57 : decode cX10_sine 57 = .ok (.ireturn, 1) := by decide +kernel
theorem dX10_sine_58 : decode cX10_sine 58 = .ok (.sipush 309, 3) := by decide +kernel
theorem dX10_sine_61 : decode cX10_sine 61 = .ok (.ireturn, 1) := by decide +kernel
theorem dX10_sine_62 : decode cX10_sine 62 = .ok (.sipush 588, 3) := by decide +kernel
theorem dX10_sine_65 : decode cX10_sine 65 = .ok (.ireturn, 1) := by decide +kernel
theorem dX10_sine_66 : decode cX10_sine 66 = .ok (.sipush 809, 3) := by decide +kernel
theorem dX10_sine_69 : decode cX10_sine 69 = .ok (.ireturn, 1) := by decide +kernel
theorem dX10_sine_70 : decode cX10_sine 70 = .ok (.sipush 951, 3) := by decide +kernel
theorem dX10_sine_73 : decode cX10_sine 73 = .ok (.ireturn, 1) := by decide +kernel
theorem dX10_sine_74 : decode cX10_sine 74 = .ok (.sipush 1000, 3) := by decide +kernel
theorem dX10_sine_77 : decode cX10_sine 77 = .ok (.ireturn, 1) := by decide +kernel
set_option maxRecDepth 20000 in
theorem ggX10_waveAt_X10_sine : GoodIn wsX10_waveAt wsX10_sine := goodIn_r _ [5] (by decide +kernel) (by decide +kernel)
set_option maxRecDepth 20000 in
theorem gX10_waveAt_X10_sine : GoodIn wsX10_waveAt (va_wsS RX10 151 yX10_sine wsX10_sine) := goodIn_app (goodIn_of _ (by decide +kernel)) ggX10_waveAt_X10_sine
theorem dX10_waveAt_0 : decode cX10_waveAt 0 = .ok (.aload_n 0, 1) := by decide +kernel
theorem dX10_waveAt_1 : decode cX10_waveAt 1 = .ok (.getfield 131, 3) := by decide +kernel
theorem dX10_waveAt_4 : decode cX10_waveAt 4 = .ok (.ifCond .ne 25, 3) := by decide +kernel
theorem dX10_waveAt_7 : decode cX10_waveAt 7 = .ok (.iload_n 1, 1) := by decide +kernel
theorem dX10_waveAt_8 : decode cX10_waveAt 8 = .ok (.bipush 10, 2) := by decide +kernel
theorem dX10_waveAt_10 : decode cX10_waveAt 10 = .ok (.if_icmp .ge 10, 3) := by decide +kernel
theorem dX10_waveAt_13 : decode cX10_waveAt 13 = .ok (.iload_n 1, 1) := by decide +kernel
theorem dX10_waveAt_14 : decode cX10_waveAt 14 = .ok (.invokestatic 151, 3) := by decide +kernel
theorem dX10_waveAt_17 : decode cX10_waveAt 17 = .ok (.goto 11, 3) := by decide +kernel
theorem dX10_waveAt_20 : decode cX10_waveAt 20 = .ok (.iload_n 1, 1) := by decide +kernel
theorem dX10_waveAt_21 : decode cX10_waveAt 21 = .ok (.bipush 10, 2) := by decide +kernel
theorem dX10_waveAt_23 : decode cX10_waveAt 23 = .ok (.isub, 1) := by decide +kernel
theorem dX10_waveAt_24 : decode cX10_waveAt 24 = .ok (.invokestatic 151, 3) := by decide +kernel
theorem dX10_waveAt_27 : decode cX10_waveAt 27 = .ok (.ineg, 1) := by decide +kernel
theorem dX10_waveAt_28 : decode cX10_waveAt 28 = .ok (.ireturn, 1) := by decide +kernel
theorem dX10_waveAt_29 : decode cX10_waveAt 29 = .ok (.aload_n 0, 1) := by decide +kernel
theorem dX10_waveAt_30 : decode cX10_waveAt 30 = .ok (.getfield 131, 3) := by decide +kernel
theorem dX10_waveAt_33 : decode cX10_waveAt 33 = .ok (.iconst 1, 1) := by decide +kernel
theorem dX10_waveAt_34 : decode cX10_waveAt 34 = .ok (.if_icmp .ne 21, 3) := by decide +kernel
theorem dX10_waveAt_37 : decode cX10_waveAt 37 = .ok (.iload_n 1, 1) := by decide +kernel
theorem dX10_waveAt_38 : decode cX10_waveAt 38 = .ok (.bipush 10, 2) := by decide +kernel
theorem dX10_waveAt_40 : decode cX10_waveAt 40 = .ok (.if_icmp .ge 9, 3) := by decide +kernel
theorem dX10_waveAt_43 : decode cX10_waveAt 43 = .ok (.sipush 1000, 3) := by decide +kernel
theorem dX10_waveAt_46 : decode cX10_waveAt 46 = .ok (.goto 17, 3) := by decide +kernel
theorem dX10_waveAt_49 : decode cX10_waveAt 49 = .ok (.sipush (-1000), 3) := by decide +kernel
theorem dX10_waveAt_52 : decode cX10_waveAt 52 = .ok (.goto 11, 3) := by decide +kernel
theorem dX10_waveAt_55 : decode cX10_waveAt 55 = .ok (.bipush 100, 2) := by decide +kernel
theorem dX10_waveAt_57 : decode cX10_waveAt 57 = .ok (.iload_n 1, 1) := by decide +kernel
theorem dX10_waveAt_58 : decode cX10_waveAt 58 = .ok (.imul, 1) := by decide +kernel
theorem dX10_waveAt_59 : decode cX10_waveAt 59 = .ok (.sipush 950, 3) := by decide +kernel
theorem dX10_waveAt_62 : decode cX10_waveAt 62 = .ok (.isub, 1) := by decide +kernel
theorem dX10_waveAt_63 : decode cX10_waveAt 63 = .ok (.ireturn, 1) := by decide +kernel
set_option maxRecDepth 20000 in
theorem ggX10_withHum_X10_waveAt : GoodIn wsX10_withHum wsX10_waveAt := goodIn_r _ [8, 9, 10, 11, 7, 12, 13, 14, 15, 16, 17, 18, 19, 20, 21, 22, 23, 24, 25, 26, 27, 28, 29, 30, 31, 32, 33, 34, 35, 36, 37, 38, 39, 40, 41, 42, 43, 44, 45, 46, 47, 48, 49, 50, 51, 52, 53, 54, 55, 56, 57, 58, 59, 60, 61] (by decide +kernel) (by decide +kernel)
set_option maxRecDepth 20000 in
theorem gX10_withHum_X10_waveAt : GoodIn wsX10_withHum (wsV RX10 154 RX10 yX10_waveAt wsX10_waveAt) := goodIn_app (goodIn_of _ (by decide +kernel)) ggX10_withHum_X10_waveAt
theorem dX10_withHum_0 : decode cX10_withHum 0 = .ok (.aload_n 0, 1) := by decide +kernel
theorem dX10_withHum_1 : decode cX10_withHum 1 = .ok (.getfield 104, 3) := by decide +kernel
theorem dX10_withHum_4 : decode cX10_withHum 4 = .ok (.i2l, 1) := by decide +kernel
theorem dX10_withHum_5 : decode cX10_withHum 5 = .ok (.aload_n 0, 1) := by decide +kernel
theorem dX10_withHum_6 : decode cX10_withHum 6 = .ok (.getfield 128, 3) := by decide +kernel
theorem dX10_withHum_9 : decode cX10_withHum 9 = .ok (.i2l, 1) := by decide +kernel
theorem dX10_withHum_10 : decode cX10_withHum 10 = .ok (.aload_n 0, 1) := by decide +kernel
theorem dX10_withHum_11 : decode cX10_withHum 11 = .ok (.iload_n 1, 1) := by decide +kernel
theorem dX10_withHum_12 : decode cX10_withHum 12 = .ok (.invokevirtual 154, 3) := by decide +kernel
theorem dX10_withHum_15 : decode cX10_withHum 15 = .ok (.i2l, 1) := by decide +kernel
theorem dX10_withHum_16 : decode cX10_withHum 16 = .ok (.lmul, 1) := by decide +kernel
theorem dX10_withHum_17 : decode cX10_withHum 17 = .ok (.ldc2_w 157, 3) := by decide +kernel
theorem dX10_withHum_20 : decode cX10_withHum 20 = .ok (.ldiv, 1) := by decide +kernel
theorem dX10_withHum_21 : decode cX10_withHum 21 = .ok (.ladd, 1) := by decide +kernel
theorem dX10_withHum_22 : decode cX10_withHum 22 = .ok (.lreturn, 1) := by decide +kernel
set_option maxRecDepth 20000 in
theorem ggX10_input_X10_withHum : GoodIn wsX10_input wsX10_withHum := goodIn_r _ [6, 7, 8, 9, 10, 11, 12, 5, 13, 14, 15, 16, 17, 18, 19, 20, 21, 22, 23, 24, 25, 26, 27, 28, 29, 30, 31, 32, 33, 34, 35, 36, 37, 38, 39, 40, 41, 42, 43, 44, 45, 46, 47, 48, 49, 50, 51, 52, 53, 54, 55, 56, 57, 58, 59, 60, 61, 62, 63, 64, 65, 66] (by decide +kernel) (by decide +kernel)
set_option maxRecDepth 20000 in
theorem gX10_input_X10_withHum : GoodIn wsX10_input (wsV RX10 159 RX10 yX10_withHum wsX10_withHum) := goodIn_app (goodIn_of _ (by decide +kernel)) ggX10_input_X10_withHum
theorem dX10_input_0 : decode cX10_input 0 = .ok (.iload_n 1, 1) := by decide +kernel
theorem dX10_input_1 : decode cX10_input 1 = .ok (.ifCond .ge 8, 3) := by decide +kernel
theorem dX10_input_4 : decode cX10_input 4 = .ok (.ldc 54, 2) := by decide +kernel
theorem dX10_input_6 : decode cX10_input 6 = .ok (.goto 12, 3) := by decide +kernel
theorem dX10_input_9 : decode cX10_input 9 = .ok (.aload_n 0, 1) := by decide +kernel
theorem dX10_input_10 : decode cX10_input 10 = .ok (.iload_n 1, 1) := by decide +kernel
theorem dX10_input_11 : decode cX10_input 11 = .ok (.bipush 20, 2) := by decide +kernel
theorem dX10_input_13 : decode cX10_input 13 = .ok (.irem, 1) := by decide +kernel
theorem dX10_input_14 : decode cX10_input 14 = .ok (.invokevirtual 159, 3) := by decide +kernel
theorem dX10_input_17 : decode cX10_input 17 = .ok (.l2i, 1) := by decide +kernel
theorem dX10_input_18 : decode cX10_input 18 = .ok (.ireturn, 1) := by decide +kernel
set_option maxRecDepth 20000 in
theorem ggX10_inputNow_X10_withHum : GoodIn wsX10_inputNow wsX10_withHum := goodIn_r _ [13, 14, 15, 16, 17, 18, 19, 12, 20, 21, 22, 23, 24, 25, 26, 27, 28, 29, 30, 31, 32, 33, 34, 35, 36, 37, 38, 39, 40, 41, 42, 43, 44, 45, 46, 47, 48, 49, 50, 51, 52, 53, 54, 55, 56, 57, 58, 59, 60, 61, 62, 63, 64, 65, 66, 67, 68, 69, 70, 71, 72, 73] (by decide +kernel) (by decide +kernel)
set_option maxRecDepth 20000 in
theorem gX10_inputNow_X10_withHum : GoodIn wsX10_inputNow (wsV RX10 159 RX10 yX10_withHum wsX10_withHum) := goodIn_app (goodIn_of _ (by decide +kernel)) ggX10_inputNow_X10_withHum
theorem dX10_inputNow_0 : decode cX10_inputNow 0 = .ok (.aload_n 0, 1) := by decide +kernel
theorem dX10_inputNow_1 : decode cX10_inputNow 1 = .ok (.aload_n 0, 1) := by decide +kernel
theorem dX10_inputNow_2 : decode cX10_inputNow 2 = .ok (.getfield 163, 3) := by decide +kernel
theorem dX10_inputNow_5 : decode cX10_inputNow 5 = .ok (.ldc2_w 166, 3) := by decide +kernel
theorem dX10_inputNow_8 : decode cX10_inputNow 8 = .ok (.lrem, 1) := by decide +kernel
theorem dX10_inputNow_9 : decode cX10_inputNow 9 = .ok (.l2i, 1) := by decide +kernel
theorem dX10_inputNow_10 : decode cX10_inputNow 10 = .ok (.invokevirtual 159, 3) := by decide +kernel
theorem dX10_inputNow_13 : decode cX10_inputNow 13 = .ok (.lstore_n 1, 1) := by decide +kernel
theorem dX10_inputNow_14 : decode cX10_inputNow 14 = .ok (.aload_n 0, 1) := by decide +kernel
theorem dX10_inputNow_15 : decode cX10_inputNow 15 = .ok (.getfield 134, 3) := by decide +kernel
theorem dX10_inputNow_18 : decode cX10_inputNow 18 = .ok (.ifCond .le 50, 3) := by decide +kernel
theorem dX10_inputNow_21 : decode cX10_inputNow 21 = .ok (.aload_n 0, 1) := by decide +kernel
theorem dX10_inputNow_22 : decode cX10_inputNow 22 = .ok (.ldc2_w 168, 3) := by decide +kernel
theorem dX10_inputNow_25 : decode cX10_inputNow 25 = .ok (.aload_n 0, 1) := by decide +kernel
theorem dX10_inputNow_26 : decode cX10_inputNow 26 = .ok (.getfield 7, 3) := by decide +kernel
theorem dX10_inputNow_29 : decode cX10_inputNow 29 = .ok (.lmul, 1) := by decide +kernel
theorem dX10_inputNow_30 : decode cX10_inputNow 30 = .ok (.ldc2_w 170, 3) := by decide +kernel
theorem dX10_inputNow_33 : decode cX10_inputNow 33 = .ok (.ladd, 1) := by decide +kernel
theorem dX10_inputNow_34 : decode cX10_inputNow 34 = .ok (.ldc2_w 172, 3) := by decide +kernel
theorem dX10_inputNow_37 : decode cX10_inputNow 37 = .ok (.lrem, 1) := by decide +kernel
theorem dX10_inputNow_38 : decode cX10_inputNow 38 = .ok (.putfield 7, 3) := by decide +kernel
theorem dX10_inputNow_41 : decode cX10_inputNow 41 = .ok (.lload_n 1, 1) := by decide +kernel
theorem dX10_inputNow_42 : decode cX10_inputNow 42 = .ok (.aload_n 0, 1) := by decide +kernel
theorem dX10_inputNow_43 : decode cX10_inputNow 43 = .ok (.getfield 7, 3) := by decide +kernel
theorem dX10_inputNow_46 : decode cX10_inputNow 46 = .ok (.ldc2_w 174, 3) := by decide +kernel
theorem dX10_inputNow_49 : decode cX10_inputNow 49 = .ok (.ldiv, 1) := by decide +kernel
theorem dX10_inputNow_50 : decode cX10_inputNow 50 = .ok (.iconst 2, 1) := by decide +kernel
theorem dX10_inputNow_51 : decode cX10_inputNow 51 = .ok (.aload_n 0, 1) := by decide +kernel
theorem dX10_inputNow_52 : decode cX10_inputNow 52 = .ok (.getfield 134, 3) := by decide +kernel
theorem dX10_inputNow_55 : decode cX10_inputNow 55 = .ok (.imul, 1) := by decide +kernel
theorem dX10_inputNow_56 : decode cX10_inputNow 56 = .ok (.iconst 1, 1) := by decide +kernel
theorem dX10_inputNow_57 : decode cX10_inputNow 57 = .ok (.iadd, 1) := by decide +kernel
theorem dX10_inputNow_58 : decode cX10_inputNow 58 = .ok (.i2l, 1) := by decide +kernel
theorem dX10_inputNow_59 : decode cX10_inputNow 59 = .ok (.lrem, 1) := by decide +kernel
theorem dX10_inputNow_60 : decode cX10_inputNow 60 = .ok (.aload_n 0, 1) := by decide +kernel
theorem dX10_inputNow_61 : decode cX10_inputNow 61 = .ok (.getfield 134, 3) := by decide +kernel
theorem dX10_inputNow_64 : decode cX10_inputNow 64 = .ok (.i2l, 1) := by decide +kernel
theorem dX10_inputNow_65 : decode cX10_inputNow 65 = .ok (.lsub, 1) := by decide +kernel
theorem dX10_inputNow_66 : decode cX10_inputNow 66 = .ok (.ladd, 1) := by decide +kernel
theorem dX10_inputNow_67 : decode cX10_inputNow 67 = .ok (.lstore_n 1, 1) := by decide +kernel
theorem dX10_inputNow_68 : decode cX10_inputNow 68 = .ok (.lload_n 1, 1) := by decide +kernel
theorem dX10_inputNow_69 : decode cX10_inputNow 69 = .ok (.lreturn, 1) := by decide +kernel
theorem dX10_gain_0 : decode cX10_gain 0 = .ok (.aload_n 0, 1) := by decide +kernel
theorem dX10_gain_1 : decode cX10_gain 1 = .ok (.getfield 95, 3) := by decide +kernel
theorem dX10_gain_4 : decode cX10_gain 4 = .ok (.ifCond .ne 7, 3) := by decide +kernel
theorem dX10_gain_7 : decode cX10_gain 7 = .ok (.lconst 1, 1) := by decide +kernel
theorem dX10_gain_8 : decode cX10_gain 8 = .ok (.goto 20, 3) := by decide +kernel
theorem dX10_gain_11 : decode cX10_gain 11 = .ok (.aload_n 0, 1) := by decide +kernel
theorem dX10_gain_12 : decode cX10_gain 12 = .ok (.getfield 95, 3) := by decide +kernel
theorem dX10_gain_15 : decode cX10_gain 15 = .ok (.iconst 1, 1) := by decide +kernel
theorem dX10_gain_16 : decode cX10_gain 16 = .ok (.if_icmp .ne 9, 3) := by decide +kernel
theorem dX10_gain_19 : decode cX10_gain 19 = .ok (.ldc2_w 176, 3) := by decide +kernel
theorem dX10_gain_22 : decode cX10_gain 22 = .ok (.goto 6, 3) := by decide +kernel
theorem dX10_gain_25 : decode cX10_gain 25 = .ok (.ldc2_w 178, 3) := by decide +kernel
theorem dX10_gain_28 : decode cX10_gain 28 = .ok (.lreturn, 1) := by decide +kernel
set_option maxRecDepth 20000 in
theorem ggX10_outNow_X10_gain : GoodIn wsX10_outNow wsX10_gain := goodIn_r _ [9, 10, 11, 12, 40, 41, 42, 43, 44, 45, 46, 47, 48, 49, 50, 51, 52, 53, 54, 55, 56, 57, 58, 59, 60, 61, 62, 63, 64, 65, 66, 67, 68, 69, 70, 71, 72, 73, 74, 75, 76, 77, 78, 79, 80, 81, 82, 83, 84, 85, 86, 87, 88] (by decide +kernel) (by decide +kernel)
set_option maxRecDepth 20000 in
theorem gX10_outNow_X10_gain : GoodIn wsX10_outNow (wsV RX10 180 RX10 yX10_gain wsX10_gain) := goodIn_app (goodIn_of _ (by decide +kernel)) ggX10_outNow_X10_gain
set_option maxRecDepth 20000 in
theorem ggX10_outNow_X10_inputNow : GoodIn wsX10_outNow wsX10_inputNow := goodIn_r _ [16, 17, 18, 19, 20, 21, 22, 23, 24, 25, 26, 27, 8, 28, 29, 30, 31, 32, 33, 34, 35, 36, 37, 38, 39, 40, 41, 42, 43, 44, 45, 46, 47, 48, 49, 50, 51, 52, 53, 54, 55, 56, 57, 58, 59, 60, 61, 62, 63, 64, 65, 66, 67, 68, 69, 70, 71, 72, 73, 74, 75, 76, 77, 78, 79, 80, 81, 82, 83, 84, 85, 86, 87, 88] (by decide +kernel) (by decide +kernel)
set_option maxRecDepth 20000 in
theorem gX10_outNow_X10_inputNow : GoodIn wsX10_outNow (wsV RX10 184 RX10 yX10_inputNow wsX10_inputNow) := goodIn_app (goodIn_of _ (by decide +kernel)) ggX10_outNow_X10_inputNow
theorem dX10_outNow_0 : decode cX10_outNow 0 = .ok (.aload_n 0, 1) := by decide +kernel
theorem dX10_outNow_1 : decode cX10_outNow 1 = .ok (.invokevirtual 180, 3) := by decide +kernel
theorem dX10_outNow_4 : decode cX10_outNow 4 = .ok (.iload_n 1, 1) := by decide +kernel
theorem dX10_outNow_5 : decode cX10_outNow 5 = .ok (.ifCond .eq 11, 3) := by decide +kernel
theorem dX10_outNow_8 : decode cX10_outNow 8 = .ok (.aload_n 0, 1) := by decide +kernel
theorem dX10_outNow_9 : decode cX10_outNow 9 = .ok (.getfield 137, 3) := by decide +kernel
theorem dX10_outNow_12 : decode cX10_outNow 12 = .ok (.i2l, 1) := by decide +kernel
theorem dX10_outNow_13 : decode cX10_outNow 13 = .ok (.goto 13, 3) := by decide +kernel
theorem dX10_outNow_16 : decode cX10_outNow 16 = .ok (.aload_n 0, 1) := by decide +kernel
theorem dX10_outNow_17 : decode cX10_outNow 17 = .ok (.invokevirtual 184, 3) := by decide +kernel
theorem dX10_outNow_20 : decode cX10_outNow 20 = .ok (.aload_n 0, 1) := by decide +kernel
theorem dX10_outNow_21 : decode cX10_outNow 21 = .ok (.getfield 137, 3) := by decide +kernel
theorem dX10_outNow_24 : decode cX10_outNow 24 = .ok (.i2l, 1) := by decide +kernel
theorem dX10_outNow_25 : decode cX10_outNow 25 = .ok (.ladd, 1) := by decide +kernel
theorem dX10_outNow_26 : decode cX10_outNow 26 = .ok (.lmul, 1) := by decide +kernel
theorem dX10_outNow_27 : decode cX10_outNow 27 = .ok (.lstore_n 2, 1) := by decide +kernel
theorem dX10_outNow_28 : decode cX10_outNow 28 = .ok (.aload_n 0, 1) := by decide +kernel
theorem dX10_outNow_29 : decode cX10_outNow 29 = .ok (.aload_n 0, 1) := by decide +kernel
theorem dX10_outNow_30 : decode cX10_outNow 30 = .ok (.getfield 187, 3) := by decide +kernel
theorem dX10_outNow_33 : decode cX10_outNow 33 = .ok (.ifCond .ne 19, 3) := by decide +kernel
theorem dX10_outNow_36 : decode cX10_outNow 36 = .ok (.lload_n 2, 1) := by decide +kernel
theorem dX10_outNow_37 : decode cX10_outNow 37 = .ok (.ldc2_w 190, 3) := by decide +kernel
theorem dX10_outNow_40 : decode cX10_outNow 40 = .ok (.lcmp, 1) := by decide +kernel
theorem dX10_outNow_41 : decode cX10_outNow 41 = .ok (.ifCond .gt 11, 3) := by decide +kernel
theorem dX10_outNow_44 : decode cX10_outNow 44 = .ok (.lload_n 2, 1) := by decide +kernel
theorem dX10_outNow_45 : decode cX10_outNow 45 = .ok (.ldc2_w 192, 3) := by decide +kernel
theorem dX10_outNow_48 : decode cX10_outNow 48 = .ok (.lcmp, 1) := by decide +kernel
theorem dX10_outNow_49 : decode cX10_outNow 49 = .ok (.ifCond .ge 7, 3) := by decide +kernel
theorem dX10_outNow_52 : decode cX10_outNow 52 = .ok (.iconst 1, 1) := by decide +kernel
theorem dX10_outNow_53 : decode cX10_outNow 53 = .ok (.goto 4, 3) := by decide +kernel
theorem dX10_outNow_56 : decode cX10_outNow 56 = .ok (.iconst 0, 1) := by decide +kernel
theorem dX10_outNow_57 : decode cX10_outNow 57 = .ok (.putfield 187, 3) := by decide +kernel
theorem dX10_outNow_60 : decode cX10_outNow 60 = .ok (.lload_n 2, 1) := by decide +kernel
theorem dX10_outNow_61 : decode cX10_outNow 61 = .ok (.ldc2_w 190, 3) := by decide +kernel
theorem dX10_outNow_64 : decode cX10_outNow 64 = .ok (.lcmp, 1) := by decide +kernel
theorem dX10_outNow_65 : decode cX10_outNow 65 = .ok (.ifCond .le 9, 3) := by decide +kernel
theorem dX10_outNow_68 : decode cX10_outNow 68 = .ok (.ldc2_w 190, 3) := by decide +kernel
theorem dX10_outNow_71 : decode cX10_outNow 71 = .ok (.goto 18, 3) := by decide +kernel
theorem dX10_outNow_74 : decode cX10_outNow 74 = .ok (.lload_n 2, 1) := by decide +kernel
theorem dX10_outNow_75 : decode cX10_outNow 75 = .ok (.ldc2_w 192, 3) := by decide +kernel
theorem dX10_outNow_78 : decode cX10_outNow 78 = .ok (.lcmp, 1) := by decide +kernel
theorem dX10_outNow_79 : decode cX10_outNow 79 = .ok (.ifCond .ge 9, 3) := by decide +kernel
theorem dX10_outNow_82 : decode cX10_outNow 82 = .ok (.ldc2_w 192, 3) := by decide +kernel
theorem dX10_outNow_85 : decode cX10_outNow 85 = .ok (.goto 4, 3) := by decide +kernel
theorem dX10_outNow_88 : decode cX10_outNow 88 = .ok (.lload_n 2, 1) := by decide +kernel
theorem dX10_outNow_89 : decode cX10_outNow 89 = .ok (.lreturn, 1) := by decide +kernel
set_option maxRecDepth 20000 in
theorem ggX10_runUp_X10_outNow : GoodIn wsX10_runUp wsX10_outNow := goodIn_r _ [13, 14, 15, 16, 17, 18, 19, 20, 12, 21, 22, 23, 24, 25, 26, 27, 28, 8, 29, 30, 31, 32, 33, 34, 35, 36, 37, 38, 39, 40, 41, 42, 43, 44, 45, 46, 47, 48, 49, 50, 51, 52, 53, 54, 55, 56, 57, 58, 59, 60, 61, 62, 63, 64, 65, 66, 67, 68, 69, 70, 71, 72, 73, 74, 75, 76, 77, 78, 79, 80, 81, 82, 83, 84, 85, 86, 87, 88, 89, 90, 91, 92, 93, 94, 95, 96, 97, 98, 99] (by decide +kernel) (by decide +kernel)
set_option maxRecDepth 20000 in
theorem gX10_runUp_X10_outNow : GoodIn wsX10_runUp (wsV RX10 197 RX10 yX10_outNow wsX10_outNow) := goodIn_app (goodIn_of _ (by decide +kernel)) ggX10_runUp_X10_outNow
theorem dX10_runUp_0 : decode cX10_runUp 0 = .ok (.iconst 0, 1) := by decide +kernel
theorem dX10_runUp_1 : decode cX10_runUp 1 = .ok (.istore_n 2, 1) := by decide +kernel
theorem dX10_runUp_2 : decode cX10_runUp 2 = .ok (.iconst 0, 1) := by decide +kernel
theorem dX10_runUp_3 : decode cX10_runUp 3 = .ok (.istore_n 3, 1) := by decide +kernel
theorem dX10_runUp_4 : decode cX10_runUp 4 = .ok (.iload_n 3, 1) := by decide +kernel
theorem dX10_runUp_5 : decode cX10_runUp 5 = .ok (.aload_n 0, 1) := by decide +kernel
theorem dX10_runUp_6 : decode cX10_runUp 6 = .ok (.getfield 17, 3) := by decide +kernel
theorem dX10_runUp_9 : decode cX10_runUp 9 = .ok (.if_icmp .ge 179, 3) := by decide +kernel
theorem dX10_runUp_12 : decode cX10_runUp 12 = .ok (.aload_n 0, 1) := by decide +kernel
theorem dX10_runUp_13 : decode cX10_runUp 13 = .ok (.getfield 194, 3) := by decide +kernel
theorem dX10_runUp_16 : decode cX10_runUp 16 = .ok (.lconst 0, 1) := by decide +kernel
theorem dX10_runUp_17 : decode cX10_runUp 17 = .ok (.lcmp, 1) := by decide +kernel
theorem dX10_runUp_18 : decode cX10_runUp 18 = .ok (.ifCond .le 7, 3) := by decide +kernel
theorem dX10_runUp_21 : decode cX10_runUp 21 = .ok (.iconst (-1), 1) := by decide +kernel
theorem dX10_runUp_22 : decode cX10_runUp 22 = .ok (.goto 4, 3) := by decide +kernel
theorem dX10_runUp_25 : decode cX10_runUp 25 = .ok (.iconst 1, 1) := by decide +kernel
theorem dX10_runUp_26 : decode cX10_runUp 26 = .ok (.istore 4, 2) := by decide +kernel
theorem dX10_runUp_28 : decode cX10_runUp 28 = .ok (.iconst 0, 1) := by decide +kernel
theorem dX10_runUp_29 : decode cX10_runUp 29 = .ok (.istore 5, 2) := by decide +kernel
theorem dX10_runUp_31 : decode cX10_runUp 31 = .ok (.iload 5, 2) := by decide +kernel
theorem dX10_runUp_33 : decode cX10_runUp 33 = .ok (.bipush 10, 2) := by decide +kernel
theorem dX10_runUp_35 : decode cX10_runUp 35 = .ok (.if_icmp .ge 147, 3) := by decide +kernel
theorem dX10_runUp_38 : decode cX10_runUp 38 = .ok (.iload 5, 2) := by decide +kernel
theorem dX10_runUp_40 : decode cX10_runUp 40 = .ok (.ifCond .ne 7, 3) := by decide +kernel
theorem dX10_runUp_43 : decode cX10_runUp 43 = .ok (.iconst 1, 1) := by decide +kernel
theorem dX10_runUp_44 : decode cX10_runUp 44 = .ok (.goto 16, 3) := by decide +kernel
theorem dX10_runUp_47 : decode cX10_runUp 47 = .ok (.iload 5, 2) := by decide +kernel
theorem dX10_runUp_49 : decode cX10_runUp 49 = .ok (.bipush 9, 2) := by decide +kernel
theorem dX10_runUp_51 : decode cX10_runUp 51 = .ok (.if_icmp .ne 7, 3) := by decide +kernel
theorem dX10_runUp_54 : decode cX10_runUp 54 = .ok (.iconst (-1), 1) := by decide +kernel
theorem dX10_runUp_55 : decode cX10_runUp 55 = .ok (.goto 5, 3) := by decide +kernel
theorem dX10_runUp_58 : decode cX10_runUp 58 = .ok (.iload 4, 2) := by decide +kernel
theorem dX10_runUp_60 : decode cX10_runUp 60 = .ok (.istore 6, 2) := by decide +kernel
theorem dX10_runUp_62 : decode cX10_runUp 62 = .ok (.aload_n 0, 1) := by decide +kernel
theorem dX10_runUp_63 : decode cX10_runUp 63 = .ok (.iload_n 1, 1) := by decide +kernel
theorem dX10_runUp_64 : decode cX10_runUp 64 = .ok (.invokevirtual 197, 3) := by decide +kernel
theorem dX10_runUp_67 : decode cX10_runUp 67 = .ok (.lstore 7, 2) := by decide +kernel
theorem dX10_runUp_69 : decode cX10_runUp 69 = .ok (.aload_n 0, 1) := by decide +kernel
theorem dX10_runUp_70 : decode cX10_runUp 70 = .ok (.dup, 1) := by decide +kernel
theorem dX10_runUp_71 : decode cX10_runUp 71 = .ok (.getfield 201, 3) := by decide +kernel
theorem dX10_runUp_74 : decode cX10_runUp 74 = .ok (.lload 7, 2) := by decide +kernel
theorem dX10_runUp_76 : decode cX10_runUp 76 = .ok (.ladd, 1) := by decide +kernel
theorem dX10_runUp_77 : decode cX10_runUp 77 = .ok (.putfield 201, 3) := by decide +kernel
theorem dX10_runUp_80 : decode cX10_runUp 80 = .ok (.aload_n 0, 1) := by decide +kernel
theorem dX10_runUp_81 : decode cX10_runUp 81 = .ok (.dup, 1) := by decide +kernel
theorem dX10_runUp_82 : decode cX10_runUp 82 = .ok (.getfield 194, 3) := by decide +kernel
theorem dX10_runUp_85 : decode cX10_runUp 85 = .ok (.lload 7, 2) := by decide +kernel
theorem dX10_runUp_87 : decode cX10_runUp 87 = .ok (.ldc2_w 204, 3) := by decide +kernel
theorem dX10_runUp_90 : decode cX10_runUp 90 = .ok (.iload 6, 2) := by decide +kernel
theorem dX10_runUp_92 : decode cX10_runUp 92 = .ok (.i2l, 1) := by decide +kernel
theorem dX10_runUp_93 : decode cX10_runUp 93 = .ok (.lmul, 1) := by decide +kernel
theorem dX10_runUp_94 : decode cX10_runUp 94 = .ok (.ladd, 1) := by decide +kernel
theorem dX10_runUp_95 : decode cX10_runUp 95 = .ok (.ladd, 1) := by decide +kernel
theorem dX10_runUp_96 : decode cX10_runUp 96 = .ok (.putfield 194, 3) := by decide +kernel
theorem dX10_runUp_99 : decode cX10_runUp 99 = .ok (.aload_n 0, 1) := by decide +kernel
theorem dX10_runUp_100 : decode cX10_runUp 100 = .ok (.dup, 1) := by decide +kernel
theorem dX10_runUp_101 : decode cX10_runUp 101 = .ok (.getfield 206, 3) := by decide +kernel
theorem dX10_runUp_104 : decode cX10_runUp 104 = .ok (.iload 6, 2) := by decide +kernel
theorem dX10_runUp_106 : decode cX10_runUp 106 = .ok (.iconst 1, 1) := by decide +kernel
theorem dX10_runUp_107 : decode cX10_runUp 107 = .ok (.if_icmp .ne 7, 3) := by decide +kernel
theorem dX10_runUp_110 : decode cX10_runUp 110 = .ok (.iconst 1, 1) := by decide +kernel
theorem dX10_runUp_111 : decode cX10_runUp 111 = .ok (.goto 4, 3) := by decide +kernel
theorem dX10_runUp_114 : decode cX10_runUp 114 = .ok (.iconst 0, 1) := by decide +kernel
theorem dX10_runUp_115 : decode cX10_runUp 115 = .ok (.iadd, 1) := by decide +kernel
theorem dX10_runUp_116 : decode cX10_runUp 116 = .ok (.putfield 206, 3) := by decide +kernel
theorem dX10_runUp_119 : decode cX10_runUp 119 = .ok (.aload_n 0, 1) := by decide +kernel
theorem dX10_runUp_120 : decode cX10_runUp 120 = .ok (.dup, 1) := by decide +kernel
theorem dX10_runUp_121 : decode cX10_runUp 121 = .ok (.getfield 209, 3) := by decide +kernel
theorem dX10_runUp_124 : decode cX10_runUp 124 = .ok (.iload 6, 2) := by decide +kernel
theorem dX10_runUp_126 : decode cX10_runUp 126 = .ok (.iconst 1, 1) := by decide +kernel
theorem dX10_runUp_127 : decode cX10_runUp 127 = .ok (.if_icmp .ne 7, 3) := by decide +kernel
theorem dX10_runUp_130 : decode cX10_runUp 130 = .ok (.iconst 0, 1) := by decide +kernel
theorem dX10_runUp_131 : decode cX10_runUp 131 = .ok (.goto 4, 3) := by decide +kernel
theorem dX10_runUp_134 : decode cX10_runUp 134 = .ok (.iconst 1, 1) := by decide +kernel
theorem dX10_runUp_135 : decode cX10_runUp 135 = .ok (.iadd, 1) := by decide +kernel
theorem dX10_runUp_136 : decode cX10_runUp 136 = .ok (.putfield 209, 3) := by decide +kernel
theorem dX10_runUp_139 : decode cX10_runUp 139 = .ok (.aload_n 0, 1) := by decide +kernel
theorem dX10_runUp_140 : decode cX10_runUp 140 = .ok (.dup, 1) := by decide +kernel
theorem dX10_runUp_141 : decode cX10_runUp 141 = .ok (.getfield 212, 3) := by decide +kernel
theorem dX10_runUp_144 : decode cX10_runUp 144 = .ok (.iload_n 2, 1) := by decide +kernel
theorem dX10_runUp_145 : decode cX10_runUp 145 = .ok (.ifCond .eq 13, 3) := by decide +kernel
theorem dX10_runUp_148 : decode cX10_runUp 148 = .ok (.iload_n 2, 1) := by decide +kernel
theorem dX10_runUp_149 : decode cX10_runUp 149 = .ok (.iload 6, 2) := by decide +kernel
theorem dX10_runUp_151 : decode cX10_runUp 151 = .ok (.if_icmp .eq 7, 3) := by decide +kernel
theorem dX10_runUp_154 : decode cX10_runUp 154 = .ok (.iconst 1, 1) := by decide +kernel
theorem dX10_runUp_155 : decode cX10_runUp 155 = .ok (.goto 4, 3) := by decide +kernel
theorem dX10_runUp_158 : decode cX10_runUp 158 = .ok (.iconst 0, 1) := by decide +kernel
theorem dX10_runUp_159 : decode cX10_runUp 159 = .ok (.iadd, 1) := by decide +kernel
theorem dX10_runUp_160 : decode cX10_runUp 160 = .ok (.putfield 212, 3) := by decide +kernel
theorem dX10_runUp_163 : decode cX10_runUp 163 = .ok (.iload 6, 2) := by decide +kernel
theorem dX10_runUp_165 : decode cX10_runUp 165 = .ok (.istore_n 2, 1) := by decide +kernel
theorem dX10_runUp_166 : decode cX10_runUp 166 = .ok (.aload_n 0, 1) := by decide +kernel
theorem dX10_runUp_167 : decode cX10_runUp 167 = .ok (.dup, 1) := by decide +kernel
theorem dX10_runUp_168 : decode cX10_runUp 168 = .ok (.getfield 163, 3) := by decide +kernel
theorem dX10_runUp_171 : decode cX10_runUp 171 = .ok (.lconst 1, 1) := by decide +kernel
theorem dX10_runUp_172 : decode cX10_runUp 172 = .ok (.ladd, 1) := by decide +kernel
theorem dX10_runUp_173 : decode cX10_runUp 173 = .ok (.putfield 163, 3) := by decide +kernel
theorem dX10_runUp_176 : decode cX10_runUp 176 = .ok (.iinc 5 1, 3) := by decide +kernel
theorem dX10_runUp_179 : decode cX10_runUp 179 = .ok (.goto (-148), 3) := by decide +kernel
theorem dX10_runUp_182 : decode cX10_runUp 182 = .ok (.iinc 3 1, 3) := by decide +kernel
theorem dX10_runUp_185 : decode cX10_runUp 185 = .ok (.goto (-181), 3) := by decide +kernel
theorem dX10_runUp_188 : decode cX10_runUp 188 = .ok (.return_, 1) := by decide +kernel
theorem dX10_slope_0 : decode cX10_slope 0 = .ok (.iload_n 0, 1) := by decide +kernel
theorem dX10_slope_1 : decode cX10_slope 1 = .ok (.ifCond .ne 9, 3) := by decide +kernel
theorem dX10_slope_4 : decode cX10_slope 4 = .ok (.ldc2_w 204, 3) := by decide +kernel
theorem dX10_slope_7 : decode cX10_slope 7 = .ok (.goto 28, 3) := by decide +kernel
theorem dX10_slope_10 : decode cX10_slope 10 = .ok (.iload_n 0, 1) := by decide +kernel
theorem dX10_slope_11 : decode cX10_slope 11 = .ok (.iconst 1, 1) := by decide +kernel
theorem dX10_slope_12 : decode cX10_slope 12 = .ok (.if_icmp .ne 9, 3) := by decide +kernel
theorem dX10_slope_15 : decode cX10_slope 15 = .ok (.ldc2_w 215, 3) := by decide +kernel
theorem dX10_slope_18 : decode cX10_slope 18 = .ok (.goto 17, 3) := by decide +kernel
theorem dX10_slope_21 : decode cX10_slope 21 = .ok (.iload_n 0, 1) := by decide +kernel
theorem dX10_slope_22 : decode cX10_slope 22 = .ok (.iconst 2, 1) := by decide +kernel
theorem dX10_slope_23 : decode cX10_slope 23 = .ok (.if_icmp .ne 9, 3) := by decide +kernel
theorem dX10_slope_26 : decode cX10_slope 26 = .ok (.ldc2_w 217, 3) := by decide +kernel
theorem dX10_slope_29 : decode cX10_slope 29 = .ok (.goto 6, 3) := by decide +kernel
theorem dX10_slope_32 : decode cX10_slope 32 = .ok (.ldc2_w 219, 3) := by decide +kernel
theorem dX10_slope_35 : decode cX10_slope 35 = .ok (.lreturn, 1) := by decide +kernel
set_option maxRecDepth 20000 in
theorem ggX10_runDown_X10_slope : GoodIn wsX10_runDown wsX10_slope := goodIn_r _ [7, 8, 9, 10, 11] (by decide +kernel) (by decide +kernel)
set_option maxRecDepth 20000 in
theorem gX10_runDown_X10_slope : GoodIn wsX10_runDown (va_wsS RX10 221 yX10_slope wsX10_slope) := goodIn_app (goodIn_of _ (by decide +kernel)) ggX10_runDown_X10_slope
theorem dX10_runDown_0 : decode cX10_runDown 0 = .ok (.aload_n 0, 1) := by decide +kernel
theorem dX10_runDown_1 : decode cX10_runDown 1 = .ok (.getfield 194, 3) := by decide +kernel
theorem dX10_runDown_4 : decode cX10_runDown 4 = .ok (.lconst 0, 1) := by decide +kernel
theorem dX10_runDown_5 : decode cX10_runDown 5 = .ok (.lcmp, 1) := by decide +kernel
theorem dX10_runDown_6 : decode cX10_runDown 6 = .ok (.ifCond .le 7, 3) := by decide +kernel
theorem dX10_runDown_9 : decode cX10_runDown 9 = .ok (.iconst (-1), 1) := by decide +kernel
theorem dX10_runDown_10 : decode cX10_runDown 10 = .ok (.goto 4, 3) := by decide +kernel
theorem dX10_runDown_13 : decode cX10_runDown 13 = .ok (.iconst 1, 1) := by decide +kernel
theorem dX10_runDown_14 : decode cX10_runDown 14 = .ok (.istore_n 2, 1) := by decide +kernel
theorem dX10_runDown_15 : decode cX10_runDown 15 = .ok (.aload_n 0, 1) := by decide +kernel
theorem dX10_runDown_16 : decode cX10_runDown 16 = .ok (.getfield 27, 3) := by decide +kernel
theorem dX10_runDown_19 : decode cX10_runDown 19 = .ok (.iload_n 1, 1) := by decide +kernel
theorem dX10_runDown_20 : decode cX10_runDown 20 = .ok (.iconst 0, 1) := by decide +kernel
theorem dX10_runDown_21 : decode cX10_runDown 21 = .ok (.iastore, 1) := by decide +kernel
theorem dX10_runDown_22 : decode cX10_runDown 22 = .ok (.iload_n 2, 1) := by decide +kernel
theorem dX10_runDown_23 : decode cX10_runDown 23 = .ok (.ifCond .ge 15, 3) := by decide +kernel
theorem dX10_runDown_26 : decode cX10_runDown 26 = .ok (.aload_n 0, 1) := by decide +kernel
theorem dX10_runDown_27 : decode cX10_runDown 27 = .ok (.getfield 194, 3) := by decide +kernel
theorem dX10_runDown_30 : decode cX10_runDown 30 = .ok (.lconst 0, 1) := by decide +kernel
theorem dX10_runDown_31 : decode cX10_runDown 31 = .ok (.lcmp, 1) := by decide +kernel
theorem dX10_runDown_32 : decode cX10_runDown 32 = .ok (.ifCond .le 54, 3) := by decide +kernel
theorem dX10_runDown_35 : decode cX10_runDown 35 = .ok (.goto 12, 3) := by decide +kernel
theorem dX10_runDown_38 : decode cX10_runDown 38 = .ok (.aload_n 0, 1) := by decide +kernel
theorem dX10_runDown_39 : decode cX10_runDown 39 = .ok (.getfield 194, 3) := by decide +kernel
theorem dX10_runDown_42 : decode cX10_runDown 42 = .ok (.lconst 0, 1) := by decide +kernel
theorem dX10_runDown_43 : decode cX10_runDown 43 = .ok (.lcmp, 1) := by decide +kernel
theorem dX10_runDown_44 : decode cX10_runDown 44 = .ok (.ifCond .ge 42, 3) := by decide +kernel
theorem dX10_runDown_47 : decode cX10_runDown 47 = .ok (.aload_n 0, 1) := by decide +kernel
theorem dX10_runDown_48 : decode cX10_runDown 48 = .ok (.dup, 1) := by decide +kernel
theorem dX10_runDown_49 : decode cX10_runDown 49 = .ok (.getfield 194, 3) := by decide +kernel
theorem dX10_runDown_52 : decode cX10_runDown 52 = .ok (.iload_n 2, 1) := by decide +kernel
theorem dX10_runDown_53 : decode cX10_runDown 53 = .ok (.i2l, 1) := by decide +kernel
theorem dX10_runDown_54 : decode cX10_runDown 54 = .ok (.iload_n 1, 1) := by decide +kernel
theorem dX10_runDown_55 : decode cX10_runDown 55 = .ok (.invokestatic 221, 3) := by decide +kernel
theorem dX10_runDown_58 : decode cX10_runDown 58 = .ok (.lmul, 1) := by decide +kernel
theorem dX10_runDown_59 : decode cX10_runDown 59 = .ok (.ladd, 1) := by decide +kernel
theorem dX10_runDown_60 : decode cX10_runDown 60 = .ok (.putfield 194, 3) := by decide +kernel
theorem dX10_runDown_63 : decode cX10_runDown 63 = .ok (.aload_n 0, 1) := by decide +kernel
theorem dX10_runDown_64 : decode cX10_runDown 64 = .ok (.getfield 27, 3) := by decide +kernel
theorem dX10_runDown_67 : decode cX10_runDown 67 = .ok (.iload_n 1, 1) := by decide +kernel
theorem dX10_runDown_68 : decode cX10_runDown 68 = .ok (.dup2, 1) := by decide +kernel
theorem dX10_runDown_69 : decode cX10_runDown 69 = .ok (.iaload, 1) := by decide +kernel
theorem dX10_runDown_70 : decode cX10_runDown 70 = .ok (.iload_n 2, 1) := by decide +kernel
theorem dX10_runDown_71 : decode cX10_runDown 71 = .ok (.iadd, 1) := by decide +kernel
theorem dX10_runDown_72 : decode cX10_runDown 72 = .ok (.iastore, 1) := by decide +kernel
theorem dX10_runDown_73 : decode cX10_runDown 73 = .ok (.aload_n 0, 1) := by decide +kernel
theorem dX10_runDown_74 : decode cX10_runDown 74 = .ok (.dup, 1) := by decide +kernel
theorem dX10_runDown_75 : decode cX10_runDown 75 = .ok (.getfield 163, 3) := by decide +kernel
theorem dX10_runDown_78 : decode cX10_runDown 78 = .ok (.lconst 1, 1) := by decide +kernel
theorem dX10_runDown_79 : decode cX10_runDown 79 = .ok (.ladd, 1) := by decide +kernel
theorem dX10_runDown_80 : decode cX10_runDown 80 = .ok (.putfield 163, 3) := by decide +kernel
theorem dX10_runDown_83 : decode cX10_runDown 83 = .ok (.goto (-61), 3) := by decide +kernel
theorem dX10_runDown_86 : decode cX10_runDown 86 = .ok (.return_, 1) := by decide +kernel
set_option maxRecDepth 20000 in
theorem ggX10_converts_X10_runUp : GoodIn wsX10_converts wsX10_runUp := goodIn_r _ [22, 23, 9, 10, 11, 6, 7, 8, 24, 25, 26, 27, 21, 28, 14, 2, 29, 30, 31, 32, 33, 34, 4, 35, 36, 37, 38, 39, 40, 41, 42, 43, 44, 45, 46, 47, 48, 49, 50, 51, 52, 53, 54, 55, 56, 57, 58, 59, 60, 61, 62, 73, 74, 75, 76, 77, 78, 79, 80, 81, 82, 83, 84, 85, 86, 87, 88, 89, 90, 91, 92, 93, 94, 95, 96, 97, 98, 99, 100, 101, 102, 103, 104, 105, 106, 107, 108, 109, 110, 111, 112, 113, 114, 115, 116, 117, 118, 119, 120, 121] (by decide +kernel) (by decide +kernel)
set_option maxRecDepth 20000 in
theorem gX10_converts_X10_runUp : GoodIn wsX10_converts (wsV RX10 233 RX10 yX10_runUp wsX10_runUp) := goodIn_app (goodIn_of _ (by decide +kernel)) ggX10_converts_X10_runUp
set_option maxRecDepth 20000 in
theorem ggX10_converts_X10_runDown : GoodIn wsX10_converts wsX10_runDown := goodIn_r _ [66, 9, 13, 24, 67, 68, 21, 69, 11, 70, 71, 72, 73, 74, 75, 76, 77, 78, 79, 80, 81, 82, 83, 84, 85, 86, 87, 88, 89, 90, 91, 92, 93, 94, 95, 96, 97, 98, 99, 100, 101, 102, 103, 104, 105, 106, 107, 108, 109, 110, 111, 112, 113, 114, 115, 116, 117, 118, 119, 120, 121] (by decide +kernel) (by decide +kernel)
set_option maxRecDepth 20000 in
theorem gX10_converts_X10_runDown : GoodIn wsX10_converts (wsV RX10 240 RX10 yX10_runDown wsX10_runDown) := goodIn_app (goodIn_of _ (by decide +kernel)) ggX10_converts_X10_runDown
set_option maxRecDepth 20000 in
theorem ggX10_converts_X10_slope : GoodIn wsX10_converts wsX10_slope := goodIn_r _ [69, 11, 70, 71, 72] (by decide +kernel) (by decide +kernel)
set_option maxRecDepth 20000 in
theorem gX10_converts_X10_slope : GoodIn wsX10_converts (va_wsS RX10 221 yX10_slope wsX10_slope) := goodIn_app (goodIn_of _ (by decide +kernel)) ggX10_converts_X10_slope
theorem dX10_converts_0 : decode cX10_converts 0 = .ok (.aload_n 0, 1) := by decide +kernel
theorem dX10_converts_1 : decode cX10_converts 1 = .ok (.iconst 1, 1) := by decide +kernel
theorem dX10_converts_2 : decode cX10_converts 2 = .ok (.putfield 224, 3) := by decide +kernel
theorem dX10_converts_5 : decode cX10_converts 5 = .ok (.aload_n 0, 1) := by decide +kernel
theorem dX10_converts_6 : decode cX10_converts 6 = .ok (.iconst 0, 1) := by decide +kernel
theorem dX10_converts_7 : decode cX10_converts 7 = .ok (.putfield 187, 3) := by decide +kernel
theorem dX10_converts_10 : decode cX10_converts 10 = .ok (.aload_n 0, 1) := by decide +kernel
theorem dX10_converts_11 : decode cX10_converts 11 = .ok (.iload_n 1, 1) := by decide +kernel
theorem dX10_converts_12 : decode cX10_converts 12 = .ok (.putfield 227, 3) := by decide +kernel
theorem dX10_converts_15 : decode cX10_converts 15 = .ok (.aload_n 0, 1) := by decide +kernel
theorem dX10_converts_16 : decode cX10_converts 16 = .ok (.aload_n 0, 1) := by decide +kernel
theorem dX10_converts_17 : decode cX10_converts 17 = .ok (.getfield 95, 3) := by decide +kernel
theorem dX10_converts_20 : decode cX10_converts 20 = .ok (.putfield 230, 3) := by decide +kernel
theorem dX10_converts_23 : decode cX10_converts 23 = .ok (.aload_n 0, 1) := by decide +kernel
theorem dX10_converts_24 : decode cX10_converts 24 = .ok (.iconst 0, 1) := by decide +kernel
theorem dX10_converts_25 : decode cX10_converts 25 = .ok (.putfield 206, 3) := by decide +kernel
theorem dX10_converts_28 : decode cX10_converts 28 = .ok (.aload_n 0, 1) := by decide +kernel
theorem dX10_converts_29 : decode cX10_converts 29 = .ok (.iconst 0, 1) := by decide +kernel
theorem dX10_converts_30 : decode cX10_converts 30 = .ok (.putfield 209, 3) := by decide +kernel
theorem dX10_converts_33 : decode cX10_converts 33 = .ok (.aload_n 0, 1) := by decide +kernel
theorem dX10_converts_34 : decode cX10_converts 34 = .ok (.iconst 0, 1) := by decide +kernel
theorem dX10_converts_35 : decode cX10_converts 35 = .ok (.putfield 212, 3) := by decide +kernel
theorem dX10_converts_38 : decode cX10_converts 38 = .ok (.aload_n 0, 1) := by decide +kernel
theorem dX10_converts_39 : decode cX10_converts 39 = .ok (.lconst 0, 1) := by decide +kernel
theorem dX10_converts_40 : decode cX10_converts 40 = .ok (.putfield 194, 3) := by decide +kernel
theorem dX10_converts_43 : decode cX10_converts 43 = .ok (.aload_n 0, 1) := by decide +kernel
theorem dX10_converts_44 : decode cX10_converts 44 = .ok (.lconst 0, 1) := by decide +kernel
theorem dX10_converts_45 : decode cX10_converts 45 = .ok (.putfield 201, 3) := by decide +kernel
theorem dX10_converts_48 : decode cX10_converts 48 = .ok (.aload_n 0, 1) := by decide +kernel
theorem dX10_converts_49 : decode cX10_converts 49 = .ok (.iload_n 1, 1) := by decide +kernel
theorem dX10_converts_50 : decode cX10_converts 50 = .ok (.invokevirtual 233, 3) := by decide +kernel
theorem dX10_converts_53 : decode cX10_converts 53 = .ok (.aload_n 0, 1) := by decide +kernel
theorem dX10_converts_54 : decode cX10_converts 54 = .ok (.aload_n 0, 1) := by decide +kernel
theorem dX10_converts_55 : decode cX10_converts 55 = .ok (.getfield 206, 3) := by decide +kernel
theorem dX10_converts_58 : decode cX10_converts 58 = .ok (.aload_n 0, 1) := by decide +kernel
theorem dX10_converts_59 : decode cX10_converts 59 = .ok (.getfield 209, 3) := by decide +kernel
theorem dX10_converts_62 : decode cX10_converts 62 = .ok (.isub, 1) := by decide +kernel
theorem dX10_converts_63 : decode cX10_converts 63 = .ok (.ineg, 1) := by decide +kernel
theorem dX10_converts_64 : decode cX10_converts 64 = .ok (.i2l, 1) := by decide +kernel
theorem dX10_converts_65 : decode cX10_converts 65 = .ok (.ldc2_w 204, 3) := by decide +kernel
theorem dX10_converts_68 : decode cX10_converts 68 = .ok (.lmul, 1) := by decide +kernel
theorem dX10_converts_69 : decode cX10_converts 69 = .ok (.putfield 237, 3) := by decide +kernel
theorem dX10_converts_72 : decode cX10_converts 72 = .ok (.iconst 0, 1) := by decide +kernel
theorem dX10_converts_73 : decode cX10_converts 73 = .ok (.istore_n 2, 1) := by decide +kernel
theorem dX10_converts_74 : decode cX10_converts 74 = .ok (.iload_n 2, 1) := by decide +kernel
theorem dX10_converts_75 : decode cX10_converts 75 = .ok (.iconst 4, 1) := by decide +kernel
theorem dX10_converts_76 : decode cX10_converts 76 = .ok (.if_icmp .ge 35, 3) := by decide +kernel
theorem dX10_converts_79 : decode cX10_converts 79 = .ok (.aload_n 0, 1) := by decide +kernel
theorem dX10_converts_80 : decode cX10_converts 80 = .ok (.iload_n 2, 1) := by decide +kernel
theorem dX10_converts_81 : decode cX10_converts 81 = .ok (.invokevirtual 240, 3) := by decide +kernel
theorem dX10_converts_84 : decode cX10_converts 84 = .ok (.aload_n 0, 1) := by decide +kernel
theorem dX10_converts_85 : decode cX10_converts 85 = .ok (.dup, 1) := by decide +kernel
theorem dX10_converts_86 : decode cX10_converts 86 = .ok (.getfield 237, 3) := by decide +kernel
theorem dX10_converts_89 : decode cX10_converts 89 = .ok (.aload_n 0, 1) := by decide +kernel
theorem dX10_converts_90 : decode cX10_converts 90 = .ok (.getfield 27, 3) := by decide +kernel
theorem dX10_converts_93 : decode cX10_converts 93 = .ok (.iload_n 2, 1) := by decide +kernel
theorem dX10_converts_94 : decode cX10_converts 94 = .ok (.iaload, 1) := by decide +kernel
theorem dX10_converts_95 : decode cX10_converts 95 = .ok (.i2l, 1) := by decide +kernel
theorem dX10_converts_96 : decode cX10_converts 96 = .ok (.iload_n 2, 1) := by decide +kernel
theorem dX10_converts_97 : decode cX10_converts 97 = .ok (.invokestatic 221, 3) := by decide +kernel
theorem dX10_converts_100 : decode cX10_converts 100 = .ok (.lmul, 1) := by decide +kernel
theorem dX10_converts_101 : decode cX10_converts 101 = .ok (.lsub, 1) := by decide +kernel
theorem dX10_converts_102 : decode cX10_converts 102 = .ok (.putfield 237, 3) := by decide +kernel
theorem dX10_converts_105 : decode cX10_converts 105 = .ok (.iinc 2 1, 3) := by decide +kernel
theorem dX10_converts_108 : decode cX10_converts 108 = .ok (.goto (-34), 3) := by decide +kernel
theorem dX10_converts_111 : decode cX10_converts 111 = .ok (.aload_n 0, 1) := by decide +kernel
theorem dX10_converts_112 : decode cX10_converts 112 = .ok (.getfield 137, 3) := by decide +kernel
theorem dX10_converts_115 : decode cX10_converts 115 = .ok (.aload_n 0, 1) := by decide +kernel
theorem dX10_converts_116 : decode cX10_converts 116 = .ok (.getfield 140, 3) := by decide +kernel
theorem dX10_converts_119 : decode cX10_converts 119 = .ok (.iadd, 1) := by decide +kernel
theorem dX10_converts_120 : decode cX10_converts 120 = .ok (.istore_n 2, 1) := by decide +kernel
theorem dX10_converts_121 : decode cX10_converts 121 = .ok (.aload_n 0, 1) := by decide +kernel
theorem dX10_converts_122 : decode cX10_converts 122 = .ok (.iload_n 2, 1) := by decide +kernel
theorem dX10_converts_123 : decode cX10_converts 123 = .ok (.sipush 2000, 3) := by decide +kernel
theorem dX10_converts_126 : decode cX10_converts 126 = .ok (.if_icmp .le 9, 3) := by decide +kernel
theorem dX10_converts_129 : decode cX10_converts 129 = .ok (.sipush 2000, 3) := by decide +kernel
theorem dX10_converts_132 : decode cX10_converts 132 = .ok (.goto 17, 3) := by decide +kernel
theorem dX10_converts_135 : decode cX10_converts 135 = .ok (.iload_n 2, 1) := by decide +kernel
theorem dX10_converts_136 : decode cX10_converts 136 = .ok (.sipush (-2000), 3) := by decide +kernel
theorem dX10_converts_139 : decode cX10_converts 139 = .ok (.if_icmp .ge 9, 3) := by decide +kernel
theorem dX10_converts_142 : decode cX10_converts 142 = .ok (.sipush (-2000), 3) := by decide +kernel
theorem dX10_converts_145 : decode cX10_converts 145 = .ok (.goto 4, 3) := by decide +kernel
theorem dX10_converts_148 : decode cX10_converts 148 = .ok (.iload_n 2, 1) := by decide +kernel
theorem dX10_converts_149 : decode cX10_converts 149 = .ok (.putfield 137, 3) := by decide +kernel
theorem dX10_converts_152 : decode cX10_converts 152 = .ok (.aload_n 0, 1) := by decide +kernel
theorem dX10_converts_153 : decode cX10_converts 153 = .ok (.dup, 1) := by decide +kernel
theorem dX10_converts_154 : decode cX10_converts 154 = .ok (.getfield 244, 3) := by decide +kernel
theorem dX10_converts_157 : decode cX10_converts 157 = .ok (.iconst 1, 1) := by decide +kernel
theorem dX10_converts_158 : decode cX10_converts 158 = .ok (.iadd, 1) := by decide +kernel
theorem dX10_converts_159 : decode cX10_converts 159 = .ok (.putfield 244, 3) := by decide +kernel
theorem dX10_converts_162 : decode cX10_converts 162 = .ok (.aload_n 0, 1) := by decide +kernel
theorem dX10_converts_163 : decode cX10_converts 163 = .ok (.dup, 1) := by decide +kernel
theorem dX10_converts_164 : decode cX10_converts 164 = .ok (.getfield 247, 3) := by decide +kernel
theorem dX10_converts_167 : decode cX10_converts 167 = .ok (.iload_n 1, 1) := by decide +kernel
theorem dX10_converts_168 : decode cX10_converts 168 = .ok (.ifCond .eq 7, 3) := by decide +kernel
theorem dX10_converts_171 : decode cX10_converts 171 = .ok (.iconst 1, 1) := by decide +kernel
theorem dX10_converts_172 : decode cX10_converts 172 = .ok (.goto 4, 3) := by decide +kernel
theorem dX10_converts_175 : decode cX10_converts 175 = .ok (.iconst 0, 1) := by decide +kernel
theorem dX10_converts_176 : decode cX10_converts 176 = .ok (.iadd, 1) := by decide +kernel
theorem dX10_converts_177 : decode cX10_converts 177 = .ok (.putfield 247, 3) := by decide +kernel
theorem dX10_converts_180 : decode cX10_converts 180 = .ok (.return_, 1) := by decide +kernel
set_option maxRecDepth 20000 in
theorem ggX10_convert_X10_within : GoodIn wsX10_convert wsX10_within := goodIn_r _ [6] (by decide +kernel) (by decide +kernel)
set_option maxRecDepth 20000 in
theorem gX10_convert_X10_within : GoodIn wsX10_convert (va_wsS RX10 50 yX10_within wsX10_within) := goodIn_app (goodIn_of _ (by decide +kernel)) ggX10_convert_X10_within
set_option maxRecDepth 20000 in
theorem ggX10_convert_X10_converts : GoodIn wsX10_convert wsX10_converts := goodIn_r _ [10, 11, 2, 12, 13, 14, 15, 16, 17, 18, 19, 20, 21, 22, 23, 24, 25, 26, 27, 28, 29, 5, 30, 31, 32, 33, 34, 35, 36, 37, 38, 39, 40, 41, 42, 43, 44, 45, 46, 47, 48, 49, 50, 51, 52, 53, 54, 55, 56, 57, 58, 59, 60, 61, 62, 63, 64, 65, 66, 67, 68, 69, 70, 71, 72, 73, 74, 75, 76, 77, 78, 79, 80, 81, 82, 83, 84, 85, 86, 87, 88, 89, 90, 91, 92, 93, 94, 95, 96, 97, 98, 99, 100, 101, 102, 103, 104, 105, 106, 107, 108, 109, 110, 111, 112, 113, 114, 115, 116, 117, 118, 119, 120, 121, 122, 123, 124, 125, 126, 127, 128, 129] (by decide +kernel) (by decide +kernel)
set_option maxRecDepth 20000 in
theorem gX10_convert_X10_converts : GoodIn wsX10_convert (wsV RX10 250 RX10 yX10_converts wsX10_converts) := goodIn_app (goodIn_of _ (by decide +kernel)) ggX10_convert_X10_converts
theorem dX10_convert_0 : decode cX10_convert 0 = .ok (.iload_n 1, 1) := by decide +kernel
theorem dX10_convert_1 : decode cX10_convert 1 = .ok (.iconst 0, 1) := by decide +kernel
theorem dX10_convert_2 : decode cX10_convert 2 = .ok (.iconst 1, 1) := by decide +kernel
theorem dX10_convert_3 : decode cX10_convert 3 = .ok (.invokestatic 50, 3) := by decide +kernel
theorem dX10_convert_6 : decode cX10_convert 6 = .ok (.ifCond .ne 6, 3) := by decide +kernel
theorem dX10_convert_9 : decode cX10_convert 9 = .ok (.ldc 54, 2) := by decide +kernel
theorem dX10_convert_11 : decode cX10_convert 11 = .ok (.ireturn, 1) := by decide +kernel
theorem dX10_convert_12 : decode cX10_convert 12 = .ok (.aload_n 0, 1) := by decide +kernel
theorem dX10_convert_13 : decode cX10_convert 13 = .ok (.iload_n 1, 1) := by decide +kernel
theorem dX10_convert_14 : decode cX10_convert 14 = .ok (.iconst 1, 1) := by decide +kernel
theorem dX10_convert_15 : decode cX10_convert 15 = .ok (.if_icmp .ne 7, 3) := by decide +kernel
theorem dX10_convert_18 : decode cX10_convert 18 = .ok (.iconst 1, 1) := by decide +kernel
theorem dX10_convert_19 : decode cX10_convert 19 = .ok (.goto 4, 3) := by decide +kernel
theorem dX10_convert_22 : decode cX10_convert 22 = .ok (.iconst 0, 1) := by decide +kernel
theorem dX10_convert_23 : decode cX10_convert 23 = .ok (.invokevirtual 250, 3) := by decide +kernel
theorem dX10_convert_26 : decode cX10_convert 26 = .ok (.aload_n 0, 1) := by decide +kernel
theorem dX10_convert_27 : decode cX10_convert 27 = .ok (.getfield 187, 3) := by decide +kernel
theorem dX10_convert_30 : decode cX10_convert 30 = .ok (.ifCond .eq 7, 3) := by decide +kernel
theorem dX10_convert_33 : decode cX10_convert 33 = .ok (.iconst 1, 1) := by decide +kernel
theorem dX10_convert_34 : decode cX10_convert 34 = .ok (.goto 4, 3) := by decide +kernel
theorem dX10_convert_37 : decode cX10_convert 37 = .ok (.iconst 0, 1) := by decide +kernel
theorem dX10_convert_38 : decode cX10_convert 38 = .ok (.ireturn, 1) := by decide +kernel
set_option maxRecDepth 20000 in
theorem ggX10_sweepNow_X10_converts : GoodIn wsX10_sweepNow wsX10_converts := goodIn_r _ [8, 9, 10, 11, 12, 13, 14, 15, 16, 17, 3, 18, 2, 19, 20, 21, 22, 23, 24, 25, 26, 7, 27, 28, 29, 30, 31, 32, 33, 34, 35, 36, 37, 38, 39, 40, 41, 42, 43, 44, 45, 46, 47, 48, 49, 50, 51, 52, 53, 54, 55, 56, 1, 57, 58, 59, 60, 61, 62, 63, 64, 65, 66, 67, 68, 69, 70, 71, 72, 73, 74, 75, 76, 77, 78, 79, 80, 81, 82, 83, 84, 85, 86, 87, 88, 89, 90, 91, 92, 93, 94, 95, 96, 97, 98, 99, 100, 101, 102, 103, 104, 105, 106, 107, 108, 109, 110, 111, 112, 113, 114, 115, 116, 117, 118, 119, 120, 121, 122, 123, 124, 125] (by decide +kernel) (by decide +kernel)
set_option maxRecDepth 20000 in
theorem gX10_sweepNow_X10_converts : GoodIn wsX10_sweepNow (wsV RX10 250 RX10 yX10_converts wsX10_converts) := goodIn_app (goodIn_of _ (by decide +kernel)) ggX10_sweepNow_X10_converts
theorem dX10_sweepNow_0 : decode cX10_sweepNow 0 = .ok (.aload_n 0, 1) := by decide +kernel
theorem dX10_sweepNow_1 : decode cX10_sweepNow 1 = .ok (.getfield 104, 3) := by decide +kernel
theorem dX10_sweepNow_4 : decode cX10_sweepNow 4 = .ok (.istore 4, 2) := by decide +kernel
theorem dX10_sweepNow_6 : decode cX10_sweepNow 6 = .ok (.lconst 0, 1) := by decide +kernel
theorem dX10_sweepNow_7 : decode cX10_sweepNow 7 = .ok (.lstore 5, 2) := by decide +kernel
theorem dX10_sweepNow_9 : decode cX10_sweepNow 9 = .ok (.iconst 0, 1) := by decide +kernel
theorem dX10_sweepNow_10 : decode cX10_sweepNow 10 = .ok (.istore 7, 2) := by decide +kernel
theorem dX10_sweepNow_12 : decode cX10_sweepNow 12 = .ok (.iload 7, 2) := by decide +kernel
theorem dX10_sweepNow_14 : decode cX10_sweepNow 14 = .ok (.iload_n 3, 1) := by decide +kernel
theorem dX10_sweepNow_15 : decode cX10_sweepNow 15 = .ok (.if_icmp .ge 76, 3) := by decide +kernel
theorem dX10_sweepNow_18 : decode cX10_sweepNow 18 = .ok (.aload_n 0, 1) := by decide +kernel
theorem dX10_sweepNow_19 : decode cX10_sweepNow 19 = .ok (.iload_n 1, 1) := by decide +kernel
theorem dX10_sweepNow_20 : decode cX10_sweepNow 20 = .ok (.iload 7, 2) := by decide +kernel
theorem dX10_sweepNow_22 : decode cX10_sweepNow 22 = .ok (.iload_n 2, 1) := by decide +kernel
theorem dX10_sweepNow_23 : decode cX10_sweepNow 23 = .ok (.imul, 1) := by decide +kernel
theorem dX10_sweepNow_24 : decode cX10_sweepNow 24 = .ok (.iadd, 1) := by decide +kernel
theorem dX10_sweepNow_25 : decode cX10_sweepNow 25 = .ok (.putfield 104, 3) := by decide +kernel
theorem dX10_sweepNow_28 : decode cX10_sweepNow 28 = .ok (.aload_n 0, 1) := by decide +kernel
theorem dX10_sweepNow_29 : decode cX10_sweepNow 29 = .ok (.iconst 0, 1) := by decide +kernel
theorem dX10_sweepNow_30 : decode cX10_sweepNow 30 = .ok (.invokevirtual 250, 3) := by decide +kernel
theorem dX10_sweepNow_33 : decode cX10_sweepNow 33 = .ok (.aload_n 0, 1) := by decide +kernel
theorem dX10_sweepNow_34 : decode cX10_sweepNow 34 = .ok (.getfield 237, 3) := by decide +kernel
theorem dX10_sweepNow_37 : decode cX10_sweepNow 37 = .ok (.aload_n 0, 1) := by decide +kernel
theorem dX10_sweepNow_38 : decode cX10_sweepNow 38 = .ok (.getfield 201, 3) := by decide +kernel
theorem dX10_sweepNow_41 : decode cX10_sweepNow 41 = .ok (.lcmp, 1) := by decide +kernel
theorem dX10_sweepNow_42 : decode cX10_sweepNow 42 = .ok (.ifCond .le 15, 3) := by decide +kernel
theorem dX10_sweepNow_45 : decode cX10_sweepNow 45 = .ok (.aload_n 0, 1) := by decide +kernel
theorem dX10_sweepNow_46 : decode cX10_sweepNow 46 = .ok (.getfield 237, 3) := by decide +kernel
theorem dX10_sweepNow_49 : decode cX10_sweepNow 49 = .ok (.aload_n 0, 1) := by decide +kernel
theorem dX10_sweepNow_50 : decode cX10_sweepNow 50 = .ok (.getfield 201, 3) := by decide +kernel
theorem dX10_sweepNow_53 : decode cX10_sweepNow 53 = .ok (.lsub, 1) := by decide +kernel
theorem dX10_sweepNow_54 : decode cX10_sweepNow 54 = .ok (.goto 12, 3) := by decide +kernel
theorem dX10_sweepNow_57 : decode cX10_sweepNow 57 = .ok (.aload_n 0, 1) := by decide +kernel
theorem dX10_sweepNow_58 : decode cX10_sweepNow 58 = .ok (.getfield 201, 3) := by decide +kernel
theorem dX10_sweepNow_61 : decode cX10_sweepNow 61 = .ok (.aload_n 0, 1) := by decide +kernel
theorem dX10_sweepNow_62 : decode cX10_sweepNow 62 = .ok (.getfield 237, 3) := by decide +kernel
theorem dX10_sweepNow_65 : decode cX10_sweepNow 65 = .ok (.lsub, 1) := by decide +kernel
theorem dX10_sweepNow_66 : decode cX10_sweepNow 66 = .ok (.lstore 8, 2) := by decide +kernel
theorem dX10_sweepNow_68 : decode cX10_sweepNow 68 = .ok (.lload 8, 2) := by decide +kernel
theorem dX10_sweepNow_70 : decode cX10_sweepNow 70 = .ok (.lload 5, 2) := by decide +kernel
theorem dX10_sweepNow_72 : decode cX10_sweepNow 72 = .ok (.lcmp, 1) := by decide +kernel
theorem dX10_sweepNow_73 : decode cX10_sweepNow 73 = .ok (.ifCond .le 8, 3) := by decide +kernel
theorem dX10_sweepNow_76 : decode cX10_sweepNow 76 = .ok (.lload 8, 2) := by decide +kernel
theorem dX10_sweepNow_78 : decode cX10_sweepNow 78 = .ok (.goto 5, 3) := by decide +kernel
theorem dX10_sweepNow_81 : decode cX10_sweepNow 81 = .ok (.lload 5, 2) := by decide +kernel
theorem dX10_sweepNow_83 : decode cX10_sweepNow 83 = .ok (.lstore 5, 2) := by decide +kernel
theorem dX10_sweepNow_85 : decode cX10_sweepNow 85 = .ok (.iinc 7 1, 3) := by decide +kernel
theorem dX10_sweepNow_88 : decode cX10_sweepNow 88 = .ok (.goto (-76), 3) := by decide +kernel
theorem dX10_sweepNow_91 : decode cX10_sweepNow 91 = .ok (.aload_n 0, 1) := by decide +kernel
theorem dX10_sweepNow_92 : decode cX10_sweepNow 92 = .ok (.iload 4, 2) := by decide +kernel
theorem dX10_sweepNow_94 : decode cX10_sweepNow 94 = .ok (.putfield 104, 3) := by decide +kernel
theorem dX10_sweepNow_97 : decode cX10_sweepNow 97 = .ok (.lload 5, 2) := by decide +kernel
theorem dX10_sweepNow_99 : decode cX10_sweepNow 99 = .ok (.l2i, 1) := by decide +kernel
theorem dX10_sweepNow_100 : decode cX10_sweepNow 100 = .ok (.ireturn, 1) := by decide +kernel
set_option maxRecDepth 20000 in
theorem ggX10_sweep_X10_within : GoodIn wsX10_sweep wsX10_within := goodIn_r _ [9] (by decide +kernel) (by decide +kernel)
set_option maxRecDepth 20000 in
theorem gX10_sweep_X10_within : GoodIn wsX10_sweep (va_wsS RX10 50 yX10_within wsX10_within) := goodIn_app (goodIn_of _ (by decide +kernel)) ggX10_sweep_X10_within
set_option maxRecDepth 20000 in
theorem ggX10_sweep_X10_sweepNow : GoodIn wsX10_sweep wsX10_sweepNow := goodIn_r _ [13, 14, 15, 16, 17, 18, 19, 8, 20, 21, 22, 23, 24, 25, 26, 27, 28, 29, 30, 31, 32, 33, 34, 35, 36, 37, 38, 39, 40, 41, 42, 43, 44, 45, 46, 47, 48, 49, 50, 51, 52, 53, 54, 55, 56, 57, 58, 59, 60, 61, 62, 63, 64, 65, 66, 67, 68, 69, 70, 71, 72, 73, 74, 75, 76, 77, 78, 79, 80, 81, 82, 83, 84, 85, 86, 87, 88, 89, 90, 91, 92, 93, 94, 95, 96, 97, 98, 99, 100, 101, 102, 103, 104, 105, 106, 107, 108, 109, 110, 111, 112, 113, 114, 115, 116, 117, 118, 119, 120, 121, 122, 123, 124, 125, 126, 127, 128, 129, 130, 131, 132, 133, 134, 135, 136, 137] (by decide +kernel) (by decide +kernel)
set_option maxRecDepth 20000 in
theorem gX10_sweep_X10_sweepNow : GoodIn wsX10_sweep (wsV RX10 257 RX10 yX10_sweepNow wsX10_sweepNow) := goodIn_app (goodIn_of _ (by decide +kernel)) ggX10_sweep_X10_sweepNow
theorem dX10_sweep_0 : decode cX10_sweep 0 = .ok (.iload_n 1, 1) := by decide +kernel
theorem dX10_sweep_1 : decode cX10_sweep 1 = .ok (.ldc 59, 2) := by decide +kernel
theorem dX10_sweep_3 : decode cX10_sweep 3 = .ok (.ldc 61, 2) := by decide +kernel
theorem dX10_sweep_5 : decode cX10_sweep 5 = .ok (.invokestatic 50, 3) := by decide +kernel
theorem dX10_sweep_8 : decode cX10_sweep 8 = .ok (.ifCond .eq 13, 3) := by decide +kernel
theorem dX10_sweep_11 : decode cX10_sweep 11 = .ok (.iload_n 3, 1) := by decide +kernel
theorem dX10_sweep_12 : decode cX10_sweep 12 = .ok (.iconst 1, 1) := by decide +kernel
theorem dX10_sweep_13 : decode cX10_sweep 13 = .ok (.bipush 8, 2) := by decide +kernel
theorem dX10_sweep_15 : decode cX10_sweep 15 = .ok (.invokestatic 50, 3) := by decide +kernel
theorem dX10_sweep_18 : decode cX10_sweep 18 = .ok (.ifCond .ne 6, 3) := by decide +kernel
theorem dX10_sweep_21 : decode cX10_sweep 21 = .ok (.ldc 54, 2) := by decide +kernel
theorem dX10_sweep_23 : decode cX10_sweep 23 = .ok (.ireturn, 1) := by decide +kernel
theorem dX10_sweep_24 : decode cX10_sweep 24 = .ok (.iload_n 1, 1) := by decide +kernel
theorem dX10_sweep_25 : decode cX10_sweep 25 = .ok (.i2l, 1) := by decide +kernel
theorem dX10_sweep_26 : decode cX10_sweep 26 = .ok (.iload_n 2, 1) := by decide +kernel
theorem dX10_sweep_27 : decode cX10_sweep 27 = .ok (.i2l, 1) := by decide +kernel
theorem dX10_sweep_28 : decode cX10_sweep 28 = .ok (.iload_n 3, 1) := by decide +kernel
theorem dX10_sweep_29 : decode cX10_sweep 29 = .ok (.iconst 1, 1) := by decide +kernel
theorem dX10_sweep_30 : decode cX10_sweep 30 = .ok (.isub, 1) := by decide +kernel
theorem dX10_sweep_31 : decode cX10_sweep 31 = .ok (.i2l, 1) := by decide +kernel
theorem dX10_sweep_32 : decode cX10_sweep 32 = .ok (.lmul, 1) := by decide +kernel
theorem dX10_sweep_33 : decode cX10_sweep 33 = .ok (.ladd, 1) := by decide +kernel
theorem dX10_sweep_34 : decode cX10_sweep 34 = .ok (.lstore 4, 2) := by decide +kernel
theorem dX10_sweep_36 : decode cX10_sweep 36 = .ok (.lload 4, 2) := by decide +kernel
theorem dX10_sweep_38 : decode cX10_sweep 38 = .ok (.ldc2_w 253, 3) := by decide +kernel
theorem dX10_sweep_41 : decode cX10_sweep 41 = .ok (.lcmp, 1) := by decide +kernel
theorem dX10_sweep_42 : decode cX10_sweep 42 = .ok (.ifCond .gt 12, 3) := by decide +kernel
theorem dX10_sweep_45 : decode cX10_sweep 45 = .ok (.lload 4, 2) := by decide +kernel
theorem dX10_sweep_47 : decode cX10_sweep 47 = .ok (.ldc2_w 255, 3) := by decide +kernel
theorem dX10_sweep_50 : decode cX10_sweep 50 = .ok (.lcmp, 1) := by decide +kernel
theorem dX10_sweep_51 : decode cX10_sweep 51 = .ok (.ifCond .ge 8, 3) := by decide +kernel
theorem dX10_sweep_54 : decode cX10_sweep 54 = .ok (.ldc 54, 2) := by decide +kernel
theorem dX10_sweep_56 : decode cX10_sweep 56 = .ok (.goto 10, 3) := by decide +kernel
theorem dX10_sweep_59 : decode cX10_sweep 59 = .ok (.aload_n 0, 1) := by decide +kernel
theorem dX10_sweep_60 : decode cX10_sweep 60 = .ok (.iload_n 1, 1) := by decide +kernel
theorem dX10_sweep_61 : decode cX10_sweep 61 = .ok (.iload_n 2, 1) := by decide +kernel
theorem dX10_sweep_62 : decode cX10_sweep 62 = .ok (.iload_n 3, 1) := by decide +kernel
theorem dX10_sweep_63 : decode cX10_sweep 63 = .ok (.invokevirtual 257, 3) := by decide +kernel
theorem dX10_sweep_66 : decode cX10_sweep 66 = .ok (.ireturn, 1) := by decide +kernel
set_option maxRecDepth 20000 in
theorem ggX10_findRange_X10_converts : GoodIn wsX10_findRange wsX10_converts := goodIn_r _ [14, 15, 1, 16, 7, 17, 18, 19, 20, 21, 22, 23, 2, 24, 25, 26, 27, 28, 29, 30, 31, 13, 32, 4, 33, 34, 35, 36, 37, 38, 39, 40, 41, 42, 43, 44, 45, 46, 47, 48, 49, 50, 51, 52, 53, 54, 55, 56, 57, 58, 59, 60, 61, 62, 63, 64, 65, 66, 67, 68, 69, 70, 71, 72, 73, 74, 75, 76, 77, 78, 79, 80, 81, 82, 83, 84, 85, 86, 87, 88, 89, 90, 91, 92, 93, 94, 95, 96, 97, 98, 99, 100, 101, 102, 103, 104, 105, 106, 107, 108, 109, 110, 111, 112, 113, 114, 115, 116, 117, 118, 119, 120, 121, 122, 123, 124, 125, 126, 127, 128, 129, 130] (by decide +kernel) (by decide +kernel)
set_option maxRecDepth 20000 in
theorem gX10_findRange_X10_converts : GoodIn wsX10_findRange (wsV RX10 250 RX10 yX10_converts wsX10_converts) := goodIn_app (goodIn_of _ (by decide +kernel)) ggX10_findRange_X10_converts
theorem dX10_findRange_0 : decode cX10_findRange 0 = .ok (.iconst 0, 1) := by decide +kernel
theorem dX10_findRange_1 : decode cX10_findRange 1 = .ok (.istore_n 1, 1) := by decide +kernel
theorem dX10_findRange_2 : decode cX10_findRange 2 = .ok (.iconst 0, 1) := by decide +kernel
theorem dX10_findRange_3 : decode cX10_findRange 3 = .ok (.istore_n 2, 1) := by decide +kernel
theorem dX10_findRange_4 : decode cX10_findRange 4 = .ok (.iconst 1, 1) := by decide +kernel
theorem dX10_findRange_5 : decode cX10_findRange 5 = .ok (.istore_n 3, 1) := by decide +kernel
theorem dX10_findRange_6 : decode cX10_findRange 6 = .ok (.iload_n 3, 1) := by decide +kernel
theorem dX10_findRange_7 : decode cX10_findRange 7 = .ok (.ifCond .eq 271, 3) := by decide +kernel
theorem dX10_findRange_10 : decode cX10_findRange 10 = .ok (.aload_n 0, 1) := by decide +kernel
theorem dX10_findRange_11 : decode cX10_findRange 11 = .ok (.iconst 0, 1) := by decide +kernel
theorem dX10_findRange_12 : decode cX10_findRange 12 = .ok (.invokevirtual 250, 3) := by decide +kernel
theorem dX10_findRange_15 : decode cX10_findRange 15 = .ok (.iinc 1 1, 3) := by decide +kernel
theorem dX10_findRange_18 : decode cX10_findRange 18 = .ok (.aload_n 0, 1) := by decide +kernel
theorem dX10_findRange_19 : decode cX10_findRange 19 = .ok (.getfield 187, 3) := by decide +kernel
theorem dX10_findRange_22 : decode cX10_findRange 22 = .ok (.ifCond .ne 38, 3) := by decide +kernel
theorem dX10_findRange_25 : decode cX10_findRange 25 = .ok (.aload_n 0, 1) := by decide +kernel
theorem dX10_findRange_26 : decode cX10_findRange 26 = .ok (.getfield 237, 3) := by decide +kernel
theorem dX10_findRange_29 : decode cX10_findRange 29 = .ok (.ldc2_w 261, 3) := by decide +kernel
theorem dX10_findRange_32 : decode cX10_findRange 32 = .ok (.aload_n 0, 1) := by decide +kernel
theorem dX10_findRange_33 : decode cX10_findRange 33 = .ok (.getfield 17, 3) := by decide +kernel
theorem dX10_findRange_36 : decode cX10_findRange 36 = .ok (.i2l, 1) := by decide +kernel
theorem dX10_findRange_37 : decode cX10_findRange 37 = .ok (.lmul, 1) := by decide +kernel
theorem dX10_findRange_38 : decode cX10_findRange 38 = .ok (.lcmp, 1) := by decide +kernel
theorem dX10_findRange_39 : decode cX10_findRange 39 = .ok (.ifCond .gt 21, 3) := by decide +kernel
theorem dX10_findRange_42 : decode cX10_findRange 42 = .ok (.aload_n 0, 1) := by decide +kernel
theorem dX10_findRange_43 : decode cX10_findRange 43 = .ok (.getfield 237, 3) := by decide +kernel
theorem dX10_findRange_46 : decode cX10_findRange 46 = .ok (.lneg, 1) := by decide +kernel
theorem dX10_findRange_47 : decode cX10_findRange 47 = .ok (.ldc2_w 261, 3) := by decide +kernel
theorem dX10_findRange_50 : decode cX10_findRange 50 = .ok (.aload_n 0, 1) := by decide +kernel
theorem dX10_findRange_51 : decode cX10_findRange 51 = .ok (.getfield 17, 3) := by decide +kernel
theorem dX10_findRange_54 : decode cX10_findRange 54 = .ok (.i2l, 1) := by decide +kernel
theorem dX10_findRange_55 : decode cX10_findRange 55 = .ok (.lmul, 1) := by decide +kernel
theorem dX10_findRange_56 : decode cX10_findRange 56 = .ok (.lcmp, 1) := by decide +kernel
theorem dX10_findRange_57 : decode cX10_findRange 57 = .ok (.ifCond .le 7, 3) := by decide +kernel
theorem dX10_findRange_60 : decode cX10_findRange 60 = .ok (.iconst 1, 1) := by decide +kernel
theorem dX10_findRange_61 : decode cX10_findRange 61 = .ok (.goto 4, 3) := by decide +kernel
theorem dX10_findRange_64 : decode cX10_findRange 64 = .ok (.iconst 0, 1) := by decide +kernel
theorem dX10_findRange_65 : decode cX10_findRange 65 = .ok (.istore 4, 2) := by decide +kernel
theorem dX10_findRange_67 : decode cX10_findRange 67 = .ok (.aload_n 0, 1) := by decide +kernel
theorem dX10_findRange_68 : decode cX10_findRange 68 = .ok (.getfield 187, 3) := by decide +kernel
theorem dX10_findRange_71 : decode cX10_findRange 71 = .ok (.ifCond .ne 42, 3) := by decide +kernel
theorem dX10_findRange_74 : decode cX10_findRange 74 = .ok (.aload_n 0, 1) := by decide +kernel
theorem dX10_findRange_75 : decode cX10_findRange 75 = .ok (.getfield 237, 3) := by decide +kernel
theorem dX10_findRange_78 : decode cX10_findRange 78 = .ok (.ldc2_w 263, 3) := by decide +kernel
theorem dX10_findRange_81 : decode cX10_findRange 81 = .ok (.aload_n 0, 1) := by decide +kernel
theorem dX10_findRange_82 : decode cX10_findRange 82 = .ok (.getfield 17, 3) := by decide +kernel
theorem dX10_findRange_85 : decode cX10_findRange 85 = .ok (.i2l, 1) := by decide +kernel
theorem dX10_findRange_86 : decode cX10_findRange 86 = .ok (.lmul, 1) := by decide +kernel
theorem dX10_findRange_87 : decode cX10_findRange 87 = .ok (.lcmp, 1) := by decide +kernel
theorem dX10_findRange_88 : decode cX10_findRange 88 = .ok (.ifCond .ge 25, 3) := by decide +kernel
theorem dX10_findRange_91 : decode cX10_findRange 91 = .ok (.aload_n 0, 1) := by decide +kernel
theorem dX10_findRange_92 : decode cX10_findRange 92 = .ok (.getfield 237, 3) := by decide +kernel
theorem dX10_findRange_95 : decode cX10_findRange 95 = .ok (.lneg, 1) := by decide +kernel
theorem dX10_findRange_96 : decode cX10_findRange 96 = .ok (.ldc2_w 263, 3) := by decide +kernel
theorem dX10_findRange_99 : decode cX10_findRange 99 = .ok (.aload_n 0, 1) := by decide +kernel
theorem dX10_findRange_100 : decode cX10_findRange 100 = .ok (.getfield 17, 3) := by decide +kernel
theorem dX10_findRange_103 : decode cX10_findRange 103 = .ok (.i2l, 1) := by decide +kernel
theorem dX10_findRange_104 : decode cX10_findRange 104 = .ok (.lmul, 1) := by decide +kernel
theorem dX10_findRange_105 : decode cX10_findRange 105 = .ok (.lcmp, 1) := by decide +kernel
theorem dX10_findRange_106 : decode cX10_findRange 106 = .ok (.ifCond .ge 7, 3) := by decide +kernel
theorem dX10_findRange_109 : decode cX10_findRange 109 = .ok (.iconst 1, 1) := by decide +kernel
theorem dX10_findRange_110 : decode cX10_findRange 110 = .ok (.goto 4, 3) := by decide +kernel
theorem dX10_findRange_113 : decode cX10_findRange 113 = .ok (.iconst 0, 1) := by decide +kernel
theorem dX10_findRange_114 : decode cX10_findRange 114 = .ok (.istore 5, 2) := by decide +kernel
theorem dX10_findRange_116 : decode cX10_findRange 116 = .ok (.aload_n 0, 1) := by decide +kernel
theorem dX10_findRange_117 : decode cX10_findRange 117 = .ok (.getfield 13, 3) := by decide +kernel
theorem dX10_findRange_120 : decode cX10_findRange 120 = .ok (.ifCond .eq 19, 3) := by decide +kernel
theorem dX10_findRange_123 : decode cX10_findRange 123 = .ok (.aload_n 0, 1) := by decide +kernel
theorem dX10_findRange_124 : decode cX10_findRange 124 = .ok (.getfield 95, 3) := by decide +kernel
theorem dX10_findRange_127 : decode cX10_findRange 127 = .ok (.ifCond .le 12, 3) := by decide +kernel
theorem dX10_findRange_130 : decode cX10_findRange 130 = .ok (.iload 4, 2) := by decide +kernel
theorem dX10_findRange_132 : decode cX10_findRange 132 = .ok (.ifCond .eq 7, 3) := by decide +kernel
theorem dX10_findRange_135 : decode cX10_findRange 135 = .ok (.iconst 1, 1) := by decide +kernel
theorem dX10_findRange_136 : decode cX10_findRange 136 = .ok (.goto 4, 3) := by decide +kernel
theorem dX10_findRange_139 : decode cX10_findRange 139 = .ok (.iconst 0, 1) := by decide +kernel
theorem dX10_findRange_140 : decode cX10_findRange 140 = .ok (.istore 6, 2) := by decide +kernel
theorem dX10_findRange_142 : decode cX10_findRange 142 = .ok (.aload_n 0, 1) := by decide +kernel
theorem dX10_findRange_143 : decode cX10_findRange 143 = .ok (.getfield 13, 3) := by decide +kernel
theorem dX10_findRange_146 : decode cX10_findRange 146 = .ok (.ifCond .eq 29, 3) := by decide +kernel
theorem dX10_findRange_149 : decode cX10_findRange 149 = .ok (.iload 6, 2) := by decide +kernel
theorem dX10_findRange_151 : decode cX10_findRange 151 = .ok (.ifCond .ne 24, 3) := by decide +kernel
theorem dX10_findRange_154 : decode cX10_findRange 154 = .ok (.aload_n 0, 1) := by decide +kernel
theorem dX10_findRange_155 : decode cX10_findRange 155 = .ok (.getfield 95, 3) := by decide +kernel
theorem dX10_findRange_158 : decode cX10_findRange 158 = .ok (.iconst 2, 1) := by decide +kernel
theorem dX10_findRange_159 : decode cX10_findRange 159 = .ok (.if_icmp .ge 16, 3) := by decide +kernel
theorem dX10_findRange_162 : decode cX10_findRange 162 = .ok (.iload_n 2, 1) := by decide +kernel
theorem dX10_findRange_163 : decode cX10_findRange 163 = .ok (.ifCond .ne 12, 3) := by decide +kernel
theorem dX10_findRange_166 : decode cX10_findRange 166 = .ok (.iload 5, 2) := by decide +kernel
theorem dX10_findRange_168 : decode cX10_findRange 168 = .ok (.ifCond .eq 7, 3) := by decide +kernel
theorem dX10_findRange_171 : decode cX10_findRange 171 = .ok (.iconst 1, 1) := by decide +kernel
theorem dX10_findRange_172 : decode cX10_findRange 172 = .ok (.goto 4, 3) := by decide +kernel
theorem dX10_findRange_175 : decode cX10_findRange 175 = .ok (.iconst 0, 1) := by decide +kernel
theorem dX10_findRange_176 : decode cX10_findRange 176 = .ok (.istore 7, 2) := by decide +kernel
theorem dX10_findRange_178 : decode cX10_findRange 178 = .ok (.aload_n 0, 1) := by decide +kernel
theorem dX10_findRange_179 : decode cX10_findRange 179 = .ok (.dup, 1) := by decide +kernel
theorem dX10_findRange_180 : decode cX10_findRange 180 = .ok (.getfield 95, 3) := by decide +kernel
theorem dX10_findRange_183 : decode cX10_findRange 183 = .ok (.iload 6, 2) := by decide +kernel
theorem dX10_findRange_185 : decode cX10_findRange 185 = .ok (.ifCond .eq 7, 3) := by decide +kernel
theorem dX10_findRange_188 : decode cX10_findRange 188 = .ok (.iconst (-1), 1) := by decide +kernel
theorem dX10_findRange_189 : decode cX10_findRange 189 = .ok (.goto 13, 3) := by decide +kernel
theorem dX10_findRange_192 : decode cX10_findRange 192 = .ok (.iload 7, 2) := by decide +kernel
theorem dX10_findRange_194 : decode cX10_findRange 194 = .ok (.ifCond .eq 7, 3) := by decide +kernel
theorem dX10_findRange_197 : decode cX10_findRange 197 = .ok (.iconst 1, 1) := by decide +kernel
theorem dX10_findRange_198 : decode cX10_findRange 198 = .ok (.goto 4, 3) := by decide +kernel
theorem dX10_findRange_201 : decode cX10_findRange 201 = .ok (.iconst 0, 1) := by decide +kernel
theorem dX10_findRange_202 : decode cX10_findRange 202 = .ok (.iadd, 1) := by decide +kernel
theorem dX10_findRange_203 : decode cX10_findRange 203 = .ok (.putfield 95, 3) := by decide +kernel
theorem dX10_findRange_206 : decode cX10_findRange 206 = .ok (.aload_n 0, 1) := by decide +kernel
theorem dX10_findRange_207 : decode cX10_findRange 207 = .ok (.dup, 1) := by decide +kernel
theorem dX10_findRange_208 : decode cX10_findRange 208 = .ok (.getfield 265, 3) := by decide +kernel
theorem dX10_findRange_211 : decode cX10_findRange 211 = .ok (.iload 6, 2) := by decide +kernel
theorem dX10_findRange_213 : decode cX10_findRange 213 = .ok (.ifCond .eq 7, 3) := by decide +kernel
theorem dX10_findRange_216 : decode cX10_findRange 216 = .ok (.iconst 1, 1) := by decide +kernel
theorem dX10_findRange_217 : decode cX10_findRange 217 = .ok (.goto 4, 3) := by decide +kernel
theorem dX10_findRange_220 : decode cX10_findRange 220 = .ok (.iconst 0, 1) := by decide +kernel
theorem dX10_findRange_221 : decode cX10_findRange 221 = .ok (.iadd, 1) := by decide +kernel
theorem dX10_findRange_222 : decode cX10_findRange 222 = .ok (.putfield 265, 3) := by decide +kernel
theorem dX10_findRange_225 : decode cX10_findRange 225 = .ok (.aload_n 0, 1) := by decide +kernel
theorem dX10_findRange_226 : decode cX10_findRange 226 = .ok (.dup, 1) := by decide +kernel
theorem dX10_findRange_227 : decode cX10_findRange 227 = .ok (.getfield 268, 3) := by decide +kernel
theorem dX10_findRange_230 : decode cX10_findRange 230 = .ok (.iload 7, 2) := by decide +kernel
theorem dX10_findRange_232 : decode cX10_findRange 232 = .ok (.ifCond .eq 7, 3) := by decide +kernel
theorem dX10_findRange_235 : decode cX10_findRange 235 = .ok (.iconst 1, 1) := by decide +kernel
theorem dX10_findRange_236 : decode cX10_findRange 236 = .ok (.goto 4, 3) := by decide +kernel
theorem dX10_findRange_239 : decode cX10_findRange 239 = .ok (.iconst 0, 1) := by decide +kernel
theorem dX10_findRange_240 : decode cX10_findRange 240 = .ok (.iadd, 1) := by decide +kernel
theorem dX10_findRange_241 : decode cX10_findRange 241 = .ok (.putfield 268, 3) := by decide +kernel
theorem dX10_findRange_244 : decode cX10_findRange 244 = .ok (.iload_n 2, 1) := by decide +kernel
theorem dX10_findRange_245 : decode cX10_findRange 245 = .ok (.ifCond .ne 8, 3) := by decide +kernel
theorem dX10_findRange_248 : decode cX10_findRange 248 = .ok (.iload 6, 2) := by decide +kernel
theorem dX10_findRange_250 : decode cX10_findRange 250 = .ok (.ifCond .eq 7, 3) := by decide +kernel
theorem dX10_findRange_253 : decode cX10_findRange 253 = .ok (.iconst 1, 1) := by decide +kernel
theorem dX10_findRange_254 : decode cX10_findRange 254 = .ok (.goto 4, 3) := by decide +kernel
theorem dX10_findRange_257 : decode cX10_findRange 257 = .ok (.iconst 0, 1) := by decide +kernel
theorem dX10_findRange_258 : decode cX10_findRange 258 = .ok (.istore_n 2, 1) := by decide +kernel
theorem dX10_findRange_259 : decode cX10_findRange 259 = .ok (.iload 6, 2) := by decide +kernel
theorem dX10_findRange_261 : decode cX10_findRange 261 = .ok (.ifCond .ne 8, 3) := by decide +kernel
theorem dX10_findRange_264 : decode cX10_findRange 264 = .ok (.iload 7, 2) := by decide +kernel
theorem dX10_findRange_266 : decode cX10_findRange 266 = .ok (.ifCond .eq 7, 3) := by decide +kernel
theorem dX10_findRange_269 : decode cX10_findRange 269 = .ok (.iconst 1, 1) := by decide +kernel
theorem dX10_findRange_270 : decode cX10_findRange 270 = .ok (.goto 4, 3) := by decide +kernel
theorem dX10_findRange_273 : decode cX10_findRange 273 = .ok (.iconst 0, 1) := by decide +kernel
theorem dX10_findRange_274 : decode cX10_findRange 274 = .ok (.istore_n 3, 1) := by decide +kernel
theorem dX10_findRange_275 : decode cX10_findRange 275 = .ok (.goto (-269), 3) := by decide +kernel
theorem dX10_findRange_278 : decode cX10_findRange 278 = .ok (.iload_n 1, 1) := by decide +kernel
theorem dX10_findRange_279 : decode cX10_findRange 279 = .ok (.ireturn, 1) := by decide +kernel
theorem dX10_isZeroKept_0 : decode cX10_isZeroKept 0 = .ok (.aload_n 0, 1) := by decide +kernel
theorem dX10_isZeroKept_1 : decode cX10_isZeroKept 1 = .ok (.getfield 21, 3) := by decide +kernel
theorem dX10_isZeroKept_4 : decode cX10_isZeroKept 4 = .ok (.iconst 2, 1) := by decide +kernel
theorem dX10_isZeroKept_5 : decode cX10_isZeroKept 5 = .ok (.if_icmp .ne 41, 3) := by decide +kernel
theorem dX10_isZeroKept_8 : decode cX10_isZeroKept 8 = .ok (.aload_n 0, 1) := by decide +kernel
theorem dX10_isZeroKept_9 : decode cX10_isZeroKept 9 = .ok (.getfield 35, 3) := by decide +kernel
theorem dX10_isZeroKept_12 : decode cX10_isZeroKept 12 = .ok (.aload_n 0, 1) := by decide +kernel
theorem dX10_isZeroKept_13 : decode cX10_isZeroKept 13 = .ok (.getfield 95, 3) := by decide +kernel
theorem dX10_isZeroKept_16 : decode cX10_isZeroKept 16 = .ok (.iaload, 1) := by decide +kernel
theorem dX10_isZeroKept_17 : decode cX10_isZeroKept 17 = .ok (.aload_n 0, 1) := by decide +kernel
theorem dX10_isZeroKept_18 : decode cX10_isZeroKept 18 = .ok (.getfield 17, 3) := by decide +kernel
theorem dX10_isZeroKept_21 : decode cX10_isZeroKept 21 = .ok (.if_icmp .ne 25, 3) := by decide +kernel
theorem dX10_isZeroKept_24 : decode cX10_isZeroKept 24 = .ok (.aload_n 0, 1) := by decide +kernel
theorem dX10_isZeroKept_25 : decode cX10_isZeroKept 25 = .ok (.getfield 38, 3) := by decide +kernel
theorem dX10_isZeroKept_28 : decode cX10_isZeroKept 28 = .ok (.aload_n 0, 1) := by decide +kernel
theorem dX10_isZeroKept_29 : decode cX10_isZeroKept 29 = .ok (.getfield 95, 3) := by decide +kernel
theorem dX10_isZeroKept_32 : decode cX10_isZeroKept 32 = .ok (.iaload, 1) := by decide +kernel
theorem dX10_isZeroKept_33 : decode cX10_isZeroKept 33 = .ok (.aload_n 0, 1) := by decide +kernel
theorem dX10_isZeroKept_34 : decode cX10_isZeroKept 34 = .ok (.getfield 121, 3) := by decide +kernel
theorem dX10_isZeroKept_37 : decode cX10_isZeroKept 37 = .ok (.iconst 4, 1) := by decide +kernel
theorem dX10_isZeroKept_38 : decode cX10_isZeroKept 38 = .ok (.isub, 1) := by decide +kernel
theorem dX10_isZeroKept_39 : decode cX10_isZeroKept 39 = .ok (.if_icmp .lt 7, 3) := by decide +kernel
theorem dX10_isZeroKept_42 : decode cX10_isZeroKept 42 = .ok (.iconst 1, 1) := by decide +kernel
theorem dX10_isZeroKept_43 : decode cX10_isZeroKept 43 = .ok (.goto 4, 3) := by decide +kernel
theorem dX10_isZeroKept_46 : decode cX10_isZeroKept 46 = .ok (.iconst 0, 1) := by decide +kernel
theorem dX10_isZeroKept_47 : decode cX10_isZeroKept 47 = .ok (.ireturn, 1) := by decide +kernel
set_option maxRecDepth 20000 in
theorem ggX10_takeZero_X10_converts : GoodIn wsX10_takeZero wsX10_converts := goodIn_r _ [12, 13, 14, 15, 2, 16, 17, 18, 19, 20, 21, 22, 3, 23, 24, 25, 26, 27, 28, 29, 30, 11, 31, 5, 32, 33, 34, 35, 36, 37, 38, 39, 40, 41, 42, 43, 44, 45, 46, 47, 48, 49, 50, 51, 52, 53, 54, 55, 56, 57, 58, 59, 60, 61, 62, 63, 64, 65, 66, 67, 68, 69, 70, 71, 72, 73, 74, 75, 76, 77, 78, 79, 80, 81, 82, 83, 84, 85, 86, 87, 88, 89, 90, 91, 92, 93, 94, 95, 96, 97, 98, 99, 100, 101, 102, 103, 104, 105, 106, 107, 108, 109, 110, 111, 112, 113, 114, 115, 116, 117, 118, 119, 120, 121, 122, 123, 124, 125, 126, 127, 128, 129] (by decide +kernel) (by decide +kernel)
set_option maxRecDepth 20000 in
theorem gX10_takeZero_X10_converts : GoodIn wsX10_takeZero (wsV RX10 250 RX10 yX10_converts wsX10_converts) := goodIn_app (goodIn_of _ (by decide +kernel)) ggX10_takeZero_X10_converts
theorem dX10_takeZero_0 : decode cX10_takeZero 0 = .ok (.aload_n 0, 1) := by decide +kernel
theorem dX10_takeZero_1 : decode cX10_takeZero 1 = .ok (.iconst 1, 1) := by decide +kernel
theorem dX10_takeZero_2 : decode cX10_takeZero 2 = .ok (.invokevirtual 250, 3) := by decide +kernel
theorem dX10_takeZero_5 : decode cX10_takeZero 5 = .ok (.aload_n 0, 1) := by decide +kernel
theorem dX10_takeZero_6 : decode cX10_takeZero 6 = .ok (.getfield 31, 3) := by decide +kernel
theorem dX10_takeZero_9 : decode cX10_takeZero 9 = .ok (.aload_n 0, 1) := by decide +kernel
theorem dX10_takeZero_10 : decode cX10_takeZero 10 = .ok (.getfield 95, 3) := by decide +kernel
theorem dX10_takeZero_13 : decode cX10_takeZero 13 = .ok (.aload_n 0, 1) := by decide +kernel
theorem dX10_takeZero_14 : decode cX10_takeZero 14 = .ok (.getfield 237, 3) := by decide +kernel
theorem dX10_takeZero_17 : decode cX10_takeZero 17 = .ok (.lastore, 1) := by decide +kernel
theorem dX10_takeZero_18 : decode cX10_takeZero 18 = .ok (.aload_n 0, 1) := by decide +kernel
theorem dX10_takeZero_19 : decode cX10_takeZero 19 = .ok (.getfield 35, 3) := by decide +kernel
theorem dX10_takeZero_22 : decode cX10_takeZero 22 = .ok (.aload_n 0, 1) := by decide +kernel
theorem dX10_takeZero_23 : decode cX10_takeZero 23 = .ok (.getfield 95, 3) := by decide +kernel
theorem dX10_takeZero_26 : decode cX10_takeZero 26 = .ok (.aload_n 0, 1) := by decide +kernel
theorem dX10_takeZero_27 : decode cX10_takeZero 27 = .ok (.getfield 17, 3) := by decide +kernel
theorem dX10_takeZero_30 : decode cX10_takeZero 30 = .ok (.iastore, 1) := by decide +kernel
theorem dX10_takeZero_31 : decode cX10_takeZero 31 = .ok (.aload_n 0, 1) := by decide +kernel
theorem dX10_takeZero_32 : decode cX10_takeZero 32 = .ok (.getfield 38, 3) := by decide +kernel
theorem dX10_takeZero_35 : decode cX10_takeZero 35 = .ok (.aload_n 0, 1) := by decide +kernel
theorem dX10_takeZero_36 : decode cX10_takeZero 36 = .ok (.getfield 95, 3) := by decide +kernel
theorem dX10_takeZero_39 : decode cX10_takeZero 39 = .ok (.aload_n 0, 1) := by decide +kernel
theorem dX10_takeZero_40 : decode cX10_takeZero 40 = .ok (.getfield 121, 3) := by decide +kernel
theorem dX10_takeZero_43 : decode cX10_takeZero 43 = .ok (.iastore, 1) := by decide +kernel
theorem dX10_takeZero_44 : decode cX10_takeZero 44 = .ok (.return_, 1) := by decide +kernel
theorem dX10_holdAtMost_0 : decode cX10_holdAtMost 0 = .ok (.aload_n 0, 1) := by decide +kernel
theorem dX10_holdAtMost_1 : decode cX10_holdAtMost 1 = .ok (.getfield 271, 3) := by decide +kernel
theorem dX10_holdAtMost_4 : decode cX10_holdAtMost 4 = .ok (.aload_n 0, 1) := by decide +kernel
theorem dX10_holdAtMost_5 : decode cX10_holdAtMost 5 = .ok (.getfield 24, 3) := by decide +kernel
theorem dX10_holdAtMost_8 : decode cX10_holdAtMost 8 = .ok (.if_icmp .le 46, 3) := by decide +kernel
theorem dX10_holdAtMost_11 : decode cX10_holdAtMost 11 = .ok (.aload_n 0, 1) := by decide +kernel
theorem dX10_holdAtMost_12 : decode cX10_holdAtMost 12 = .ok (.dup, 1) := by decide +kernel
theorem dX10_holdAtMost_13 : decode cX10_holdAtMost 13 = .ok (.getfield 271, 3) := by decide +kernel
theorem dX10_holdAtMost_16 : decode cX10_holdAtMost 16 = .ok (.iconst 1, 1) := by decide +kernel
theorem dX10_holdAtMost_17 : decode cX10_holdAtMost 17 = .ok (.isub, 1) := by decide +kernel
theorem dX10_holdAtMost_18 : decode cX10_holdAtMost 18 = .ok (.putfield 271, 3) := by decide +kernel
theorem dX10_holdAtMost_21 : decode cX10_holdAtMost 21 = .ok (.iconst 0, 1) := by decide +kernel
theorem dX10_holdAtMost_22 : decode cX10_holdAtMost 22 = .ok (.istore_n 1, 1) := by decide +kernel
theorem dX10_holdAtMost_23 : decode cX10_holdAtMost 23 = .ok (.iload_n 1, 1) := by decide +kernel
theorem dX10_holdAtMost_24 : decode cX10_holdAtMost 24 = .ok (.aload_n 0, 1) := by decide +kernel
theorem dX10_holdAtMost_25 : decode cX10_holdAtMost 25 = .ok (.getfield 271, 3) := by decide +kernel
theorem dX10_holdAtMost_28 : decode cX10_holdAtMost 28 = .ok (.if_icmp .ge 23, 3) := by decide +kernel
theorem dX10_holdAtMost_31 : decode cX10_holdAtMost 31 = .ok (.aload_n 0, 1) := by decide +kernel
theorem dX10_holdAtMost_32 : decode cX10_holdAtMost 32 = .ok (.getfield 41, 3) := by decide +kernel
theorem dX10_holdAtMost_35 : decode cX10_holdAtMost 35 = .ok (.iload_n 1, 1) := by decide +kernel
theorem dX10_holdAtMost_36 : decode cX10_holdAtMost 36 = .ok (.aload_n 0, 1) := by decide +kernel
theorem dX10_holdAtMost_37 : decode cX10_holdAtMost 37 = .ok (.getfield 41, 3) := by decide +kernel
theorem dX10_holdAtMost_40 : decode cX10_holdAtMost 40 = .ok (.iload_n 1, 1) := by decide +kernel
theorem dX10_holdAtMost_41 : decode cX10_holdAtMost 41 = .ok (.iconst 1, 1) := by decide +kernel
theorem dX10_holdAtMost_42 : decode cX10_holdAtMost 42 = .ok (.iadd, 1) := by decide +kernel
theorem dX10_holdAtMost_43 : decode cX10_holdAtMost 43 = .ok (.laload, 1) := by decide +kernel
theorem dX10_holdAtMost_44 : decode cX10_holdAtMost 44 = .ok (.lastore, 1) := by decide +kernel
theorem dX10_holdAtMost_45 : decode cX10_holdAtMost 45 = .ok (.iinc 1 1, 3) := by decide +kernel
theorem dX10_holdAtMost_48 : decode cX10_holdAtMost 48 = .ok (.goto (-25), 3) := by decide +kernel
theorem dX10_holdAtMost_51 : decode cX10_holdAtMost 51 = .ok (.goto (-51), 3) := by decide +kernel
theorem dX10_holdAtMost_54 : decode cX10_holdAtMost 54 = .ok (.return_, 1) := by decide +kernel
theorem dX10_shown_0 : decode cX10_shown 0 = .ok (.lconst 0, 1) := by decide +kernel
theorem dX10_shown_1 : decode cX10_shown 1 = .ok (.lstore_n 1, 1) := by decide +kernel
theorem dX10_shown_2 : decode cX10_shown 2 = .ok (.iconst 0, 1) := by decide +kernel
theorem dX10_shown_3 : decode cX10_shown 3 = .ok (.istore_n 3, 1) := by decide +kernel
theorem dX10_shown_4 : decode cX10_shown 4 = .ok (.iload_n 3, 1) := by decide +kernel
theorem dX10_shown_5 : decode cX10_shown 5 = .ok (.aload_n 0, 1) := by decide +kernel
theorem dX10_shown_6 : decode cX10_shown 6 = .ok (.getfield 271, 3) := by decide +kernel
theorem dX10_shown_9 : decode cX10_shown 9 = .ok (.if_icmp .ge 18, 3) := by decide +kernel
theorem dX10_shown_12 : decode cX10_shown 12 = .ok (.lload_n 1, 1) := by decide +kernel
theorem dX10_shown_13 : decode cX10_shown 13 = .ok (.aload_n 0, 1) := by decide +kernel
theorem dX10_shown_14 : decode cX10_shown 14 = .ok (.getfield 41, 3) := by decide +kernel
theorem dX10_shown_17 : decode cX10_shown 17 = .ok (.iload_n 3, 1) := by decide +kernel
theorem dX10_shown_18 : decode cX10_shown 18 = .ok (.laload, 1) := by decide +kernel
theorem dX10_shown_19 : decode cX10_shown 19 = .ok (.ladd, 1) := by decide +kernel
theorem dX10_shown_20 : decode cX10_shown 20 = .ok (.lstore_n 1, 1) := by decide +kernel
theorem dX10_shown_21 : decode cX10_shown 21 = .ok (.iinc 3 1, 3) := by decide +kernel
theorem dX10_shown_24 : decode cX10_shown 24 = .ok (.goto (-20), 3) := by decide +kernel
theorem dX10_shown_27 : decode cX10_shown 27 = .ok (.aload_n 0, 1) := by decide +kernel
theorem dX10_shown_28 : decode cX10_shown 28 = .ok (.getfield 271, 3) := by decide +kernel
theorem dX10_shown_31 : decode cX10_shown 31 = .ok (.ifCond .ne 7, 3) := by decide +kernel
theorem dX10_shown_34 : decode cX10_shown 34 = .ok (.lconst 0, 1) := by decide +kernel
theorem dX10_shown_35 : decode cX10_shown 35 = .ok (.goto 10, 3) := by decide +kernel
theorem dX10_shown_38 : decode cX10_shown 38 = .ok (.lload_n 1, 1) := by decide +kernel
theorem dX10_shown_39 : decode cX10_shown 39 = .ok (.aload_n 0, 1) := by decide +kernel
theorem dX10_shown_40 : decode cX10_shown 40 = .ok (.getfield 271, 3) := by decide +kernel
theorem dX10_shown_43 : decode cX10_shown 43 = .ok (.i2l, 1) := by decide +kernel
theorem dX10_shown_44 : decode cX10_shown 44 = .ok (.ldiv, 1) := by decide +kernel
theorem dX10_shown_45 : decode cX10_shown 45 = .ok (.lreturn, 1) := by decide +kernel
set_option maxRecDepth 20000 in
theorem ggX10_comes_X10_shown : GoodIn wsX10_comes wsX10_shown := goodIn_r _ [10, 1, 5, 16, 17, 18, 19, 20, 21, 22, 23, 24, 25, 26, 27, 28, 29, 30, 31, 32, 33, 34, 35, 36, 37, 38, 39, 40, 41, 42, 43, 44, 45, 46, 47, 48, 49, 50, 51, 52, 53, 54, 55, 56, 57, 58, 59, 60, 61, 62, 63, 64] (by decide +kernel) (by decide +kernel)
set_option maxRecDepth 20000 in
theorem gX10_comes_X10_shown : GoodIn wsX10_comes (wsV RX10 274 RX10 yX10_shown wsX10_shown) := goodIn_app (goodIn_of _ (by decide +kernel)) ggX10_comes_X10_shown
set_option maxRecDepth 20000 in
theorem ggX10_comes_X10_holdAtMost : GoodIn wsX10_comes wsX10_holdAtMost := goodIn_r _ [14, 1, 15, 5, 16, 17, 18, 19, 20, 21, 22, 23, 24, 25, 26, 27, 28, 29, 30, 31, 32, 33, 34, 35, 36, 37, 38, 39, 40, 41, 42, 43, 44, 45, 46, 47, 48, 49, 50, 51, 52, 53, 54, 55, 56, 57, 58, 59, 60, 61, 62, 63, 64] (by decide +kernel) (by decide +kernel)
set_option maxRecDepth 20000 in
theorem gX10_comes_X10_holdAtMost : GoodIn wsX10_comes (wsV RX10 98 RX10 yX10_holdAtMost wsX10_holdAtMost) := goodIn_app (goodIn_of _ (by decide +kernel)) ggX10_comes_X10_holdAtMost
theorem dX10_comes_0 : decode cX10_comes 0 = .ok (.lload_n 1, 1) := by decide +kernel
theorem dX10_comes_1 : decode cX10_comes 1 = .ok (.aload_n 0, 1) := by decide +kernel
theorem dX10_comes_2 : decode cX10_comes 2 = .ok (.invokevirtual 274, 3) := by decide +kernel
theorem dX10_comes_5 : decode cX10_comes 5 = .ok (.lcmp, 1) := by decide +kernel
theorem dX10_comes_6 : decode cX10_comes 6 = .ok (.ifCond .le 12, 3) := by decide +kernel
theorem dX10_comes_9 : decode cX10_comes 9 = .ok (.lload_n 1, 1) := by decide +kernel
theorem dX10_comes_10 : decode cX10_comes 10 = .ok (.aload_n 0, 1) := by decide +kernel
theorem dX10_comes_11 : decode cX10_comes 11 = .ok (.invokevirtual 274, 3) := by decide +kernel
theorem dX10_comes_14 : decode cX10_comes 14 = .ok (.lsub, 1) := by decide +kernel
theorem dX10_comes_15 : decode cX10_comes 15 = .ok (.goto 9, 3) := by decide +kernel
theorem dX10_comes_18 : decode cX10_comes 18 = .ok (.aload_n 0, 1) := by decide +kernel
theorem dX10_comes_19 : decode cX10_comes 19 = .ok (.invokevirtual 274, 3) := by decide +kernel
theorem dX10_comes_22 : decode cX10_comes 22 = .ok (.lload_n 1, 1) := by decide +kernel
theorem dX10_comes_23 : decode cX10_comes 23 = .ok (.lsub, 1) := by decide +kernel
theorem dX10_comes_24 : decode cX10_comes 24 = .ok (.lstore_n 3, 1) := by decide +kernel
theorem dX10_comes_25 : decode cX10_comes 25 = .ok (.aload_n 0, 1) := by decide +kernel
theorem dX10_comes_26 : decode cX10_comes 26 = .ok (.getfield 271, 3) := by decide +kernel
theorem dX10_comes_29 : decode cX10_comes 29 = .ok (.ifCond .le 28, 3) := by decide +kernel
theorem dX10_comes_32 : decode cX10_comes 32 = .ok (.aload_n 0, 1) := by decide +kernel
theorem dX10_comes_33 : decode cX10_comes 33 = .ok (.getfield 101, 3) := by decide +kernel
theorem dX10_comes_36 : decode cX10_comes 36 = .ok (.ifCond .le 21, 3) := by decide +kernel
theorem dX10_comes_39 : decode cX10_comes 39 = .ok (.lload_n 3, 1) := by decide +kernel
theorem dX10_comes_40 : decode cX10_comes 40 = .ok (.aload_n 0, 1) := by decide +kernel
theorem dX10_comes_41 : decode cX10_comes 41 = .ok (.getfield 101, 3) := by decide +kernel
theorem dX10_comes_44 : decode cX10_comes 44 = .ok (.i2l, 1) := by decide +kernel
theorem dX10_comes_45 : decode cX10_comes 45 = .ok (.ldc2_w 157, 3) := by decide +kernel
theorem dX10_comes_48 : decode cX10_comes 48 = .ok (.lmul, 1) := by decide +kernel
theorem dX10_comes_49 : decode cX10_comes 49 = .ok (.lcmp, 1) := by decide +kernel
theorem dX10_comes_50 : decode cX10_comes 50 = .ok (.ifCond .le 7, 3) := by decide +kernel
theorem dX10_comes_53 : decode cX10_comes 53 = .ok (.iconst 1, 1) := by decide +kernel
theorem dX10_comes_54 : decode cX10_comes 54 = .ok (.goto 4, 3) := by decide +kernel
theorem dX10_comes_57 : decode cX10_comes 57 = .ok (.iconst 0, 1) := by decide +kernel
theorem dX10_comes_58 : decode cX10_comes 58 = .ok (.istore 5, 2) := by decide +kernel
theorem dX10_comes_60 : decode cX10_comes 60 = .ok (.aload_n 0, 1) := by decide +kernel
theorem dX10_comes_61 : decode cX10_comes 61 = .ok (.iload 5, 2) := by decide +kernel
theorem dX10_comes_63 : decode cX10_comes 63 = .ok (.ifCond .eq 7, 3) := by decide +kernel
theorem dX10_comes_66 : decode cX10_comes 66 = .ok (.iconst 0, 1) := by decide +kernel
theorem dX10_comes_67 : decode cX10_comes 67 = .ok (.goto 7, 3) := by decide +kernel
theorem dX10_comes_70 : decode cX10_comes 70 = .ok (.aload_n 0, 1) := by decide +kernel
theorem dX10_comes_71 : decode cX10_comes 71 = .ok (.getfield 271, 3) := by decide +kernel
theorem dX10_comes_74 : decode cX10_comes 74 = .ok (.putfield 271, 3) := by decide +kernel
theorem dX10_comes_77 : decode cX10_comes 77 = .ok (.aload_n 0, 1) := by decide +kernel
theorem dX10_comes_78 : decode cX10_comes 78 = .ok (.dup, 1) := by decide +kernel
theorem dX10_comes_79 : decode cX10_comes 79 = .ok (.getfield 277, 3) := by decide +kernel
theorem dX10_comes_82 : decode cX10_comes 82 = .ok (.iload 5, 2) := by decide +kernel
theorem dX10_comes_84 : decode cX10_comes 84 = .ok (.ifCond .eq 7, 3) := by decide +kernel
theorem dX10_comes_87 : decode cX10_comes 87 = .ok (.iconst 1, 1) := by decide +kernel
theorem dX10_comes_88 : decode cX10_comes 88 = .ok (.goto 4, 3) := by decide +kernel
theorem dX10_comes_91 : decode cX10_comes 91 = .ok (.iconst 0, 1) := by decide +kernel
theorem dX10_comes_92 : decode cX10_comes 92 = .ok (.iadd, 1) := by decide +kernel
theorem dX10_comes_93 : decode cX10_comes 93 = .ok (.putfield 277, 3) := by decide +kernel
theorem dX10_comes_96 : decode cX10_comes 96 = .ok (.aload_n 0, 1) := by decide +kernel
theorem dX10_comes_97 : decode cX10_comes 97 = .ok (.getfield 41, 3) := by decide +kernel
theorem dX10_comes_100 : decode cX10_comes 100 = .ok (.aload_n 0, 1) := by decide +kernel
theorem dX10_comes_101 : decode cX10_comes 101 = .ok (.getfield 271, 3) := by decide +kernel
theorem dX10_comes_104 : decode cX10_comes 104 = .ok (.lload_n 1, 1) := by decide +kernel
theorem dX10_comes_105 : decode cX10_comes 105 = .ok (.lastore, 1) := by decide +kernel
theorem dX10_comes_106 : decode cX10_comes 106 = .ok (.aload_n 0, 1) := by decide +kernel
theorem dX10_comes_107 : decode cX10_comes 107 = .ok (.dup, 1) := by decide +kernel
theorem dX10_comes_108 : decode cX10_comes 108 = .ok (.getfield 271, 3) := by decide +kernel
theorem dX10_comes_111 : decode cX10_comes 111 = .ok (.iconst 1, 1) := by decide +kernel
theorem dX10_comes_112 : decode cX10_comes 112 = .ok (.iadd, 1) := by decide +kernel
theorem dX10_comes_113 : decode cX10_comes 113 = .ok (.putfield 271, 3) := by decide +kernel
theorem dX10_comes_116 : decode cX10_comes 116 = .ok (.aload_n 0, 1) := by decide +kernel
theorem dX10_comes_117 : decode cX10_comes 117 = .ok (.invokevirtual 98, 3) := by decide +kernel
theorem dX10_comes_120 : decode cX10_comes 120 = .ok (.iload 5, 2) := by decide +kernel
theorem dX10_comes_122 : decode cX10_comes 122 = .ok (.ireturn, 1) := by decide +kernel
theorem dX10_noteDown_0 : decode cX10_noteDown 0 = .ok (.bipush 95, 2) := by decide +kernel
theorem dX10_noteDown_2 : decode cX10_noteDown 2 = .ok (.istore 6, 2) := by decide +kernel
theorem dX10_noteDown_4 : decode cX10_noteDown 4 = .ok (.iload 6, 2) := by decide +kernel
theorem dX10_noteDown_6 : decode cX10_noteDown 6 = .ok (.bipush 8, 2) := by decide +kernel
theorem dX10_noteDown_8 : decode cX10_noteDown 8 = .ok (.if_icmp .lt 26, 3) := by decide +kernel
theorem dX10_noteDown_11 : decode cX10_noteDown 11 = .ok (.aload_n 0, 1) := by decide +kernel
theorem dX10_noteDown_12 : decode cX10_noteDown 12 = .ok (.getfield 44, 3) := by decide +kernel
theorem dX10_noteDown_15 : decode cX10_noteDown 15 = .ok (.iload 6, 2) := by decide +kernel
theorem dX10_noteDown_17 : decode cX10_noteDown 17 = .ok (.aload_n 0, 1) := by decide +kernel
theorem dX10_noteDown_18 : decode cX10_noteDown 18 = .ok (.getfield 44, 3) := by decide +kernel
theorem dX10_noteDown_21 : decode cX10_noteDown 21 = .ok (.iload 6, 2) := by decide +kernel
theorem dX10_noteDown_23 : decode cX10_noteDown 23 = .ok (.bipush 8, 2) := by decide +kernel
theorem dX10_noteDown_25 : decode cX10_noteDown 25 = .ok (.isub, 1) := by decide +kernel
theorem dX10_noteDown_26 : decode cX10_noteDown 26 = .ok (.iaload, 1) := by decide +kernel
theorem dX10_noteDown_27 : decode cX10_noteDown 27 = .ok (.iastore, 1) := by decide +kernel
theorem dX10_noteDown_28 : decode cX10_noteDown 28 = .ok (.iinc 6 (-1), 3) := by decide +kernel
theorem dX10_noteDown_31 : decode cX10_noteDown 31 = .ok (.goto (-27), 3) := by decide +kernel
theorem dX10_noteDown_34 : decode cX10_noteDown 34 = .ok (.aload_n 0, 1) := by decide +kernel
theorem dX10_noteDown_35 : decode cX10_noteDown 35 = .ok (.getfield 44, 3) := by decide +kernel
theorem dX10_noteDown_38 : decode cX10_noteDown 38 = .ok (.iconst 0, 1) := by decide +kernel
theorem dX10_noteDown_39 : decode cX10_noteDown 39 = .ok (.aload_n 0, 1) := by decide +kernel
theorem dX10_noteDown_40 : decode cX10_noteDown 40 = .ok (.getfield 121, 3) := by decide +kernel
theorem dX10_noteDown_43 : decode cX10_noteDown 43 = .ok (.iastore, 1) := by decide +kernel
theorem dX10_noteDown_44 : decode cX10_noteDown 44 = .ok (.aload_n 0, 1) := by decide +kernel
theorem dX10_noteDown_45 : decode cX10_noteDown 45 = .ok (.getfield 44, 3) := by decide +kernel
theorem dX10_noteDown_48 : decode cX10_noteDown 48 = .ok (.iconst 1, 1) := by decide +kernel
theorem dX10_noteDown_49 : decode cX10_noteDown 49 = .ok (.lload_n 1, 1) := by decide +kernel
theorem dX10_noteDown_50 : decode cX10_noteDown 50 = .ok (.ldc2_w 157, 3) := by decide +kernel
theorem dX10_noteDown_53 : decode cX10_noteDown 53 = .ok (.ldiv, 1) := by decide +kernel
theorem dX10_noteDown_54 : decode cX10_noteDown 54 = .ok (.l2i, 1) := by decide +kernel
theorem dX10_noteDown_55 : decode cX10_noteDown 55 = .ok (.iastore, 1) := by decide +kernel
theorem dX10_noteDown_56 : decode cX10_noteDown 56 = .ok (.aload_n 0, 1) := by decide +kernel
theorem dX10_noteDown_57 : decode cX10_noteDown 57 = .ok (.getfield 44, 3) := by decide +kernel
theorem dX10_noteDown_60 : decode cX10_noteDown 60 = .ok (.iconst 2, 1) := by decide +kernel
theorem dX10_noteDown_61 : decode cX10_noteDown 61 = .ok (.lload_n 1, 1) := by decide +kernel
theorem dX10_noteDown_62 : decode cX10_noteDown 62 = .ok (.ldc2_w 157, 3) := by decide +kernel
theorem dX10_noteDown_65 : decode cX10_noteDown 65 = .ok (.lrem, 1) := by decide +kernel
theorem dX10_noteDown_66 : decode cX10_noteDown 66 = .ok (.l2i, 1) := by decide +kernel
theorem dX10_noteDown_67 : decode cX10_noteDown 67 = .ok (.iastore, 1) := by decide +kernel
theorem dX10_noteDown_68 : decode cX10_noteDown 68 = .ok (.aload_n 0, 1) := by decide +kernel
theorem dX10_noteDown_69 : decode cX10_noteDown 69 = .ok (.getfield 44, 3) := by decide +kernel
theorem dX10_noteDown_72 : decode cX10_noteDown 72 = .ok (.iconst 3, 1) := by decide +kernel
theorem dX10_noteDown_73 : decode cX10_noteDown 73 = .ok (.aload_n 0, 1) := by decide +kernel
theorem dX10_noteDown_74 : decode cX10_noteDown 74 = .ok (.getfield 95, 3) := by decide +kernel
theorem dX10_noteDown_77 : decode cX10_noteDown 77 = .ok (.iastore, 1) := by decide +kernel
theorem dX10_noteDown_78 : decode cX10_noteDown 78 = .ok (.aload_n 0, 1) := by decide +kernel
theorem dX10_noteDown_79 : decode cX10_noteDown 79 = .ok (.getfield 44, 3) := by decide +kernel
theorem dX10_noteDown_82 : decode cX10_noteDown 82 = .ok (.iconst 4, 1) := by decide +kernel
theorem dX10_noteDown_83 : decode cX10_noteDown 83 = .ok (.iload_n 3, 1) := by decide +kernel
theorem dX10_noteDown_84 : decode cX10_noteDown 84 = .ok (.ifCond .eq 7, 3) := by decide +kernel
theorem dX10_noteDown_87 : decode cX10_noteDown 87 = .ok (.iconst 1, 1) := by decide +kernel
theorem dX10_noteDown_88 : decode cX10_noteDown 88 = .ok (.goto 4, 3) := by decide +kernel
theorem dX10_noteDown_91 : decode cX10_noteDown 91 = .ok (.iconst 0, 1) := by decide +kernel
theorem dX10_noteDown_92 : decode cX10_noteDown 92 = .ok (.iastore, 1) := by decide +kernel
theorem dX10_noteDown_93 : decode cX10_noteDown 93 = .ok (.aload_n 0, 1) := by decide +kernel
theorem dX10_noteDown_94 : decode cX10_noteDown 94 = .ok (.getfield 44, 3) := by decide +kernel
theorem dX10_noteDown_97 : decode cX10_noteDown 97 = .ok (.iconst 5, 1) := by decide +kernel
theorem dX10_noteDown_98 : decode cX10_noteDown 98 = .ok (.iload 4, 2) := by decide +kernel
theorem dX10_noteDown_100 : decode cX10_noteDown 100 = .ok (.iastore, 1) := by decide +kernel
theorem dX10_noteDown_101 : decode cX10_noteDown 101 = .ok (.aload_n 0, 1) := by decide +kernel
theorem dX10_noteDown_102 : decode cX10_noteDown 102 = .ok (.getfield 44, 3) := by decide +kernel
theorem dX10_noteDown_105 : decode cX10_noteDown 105 = .ok (.bipush 6, 2) := by decide +kernel
theorem dX10_noteDown_107 : decode cX10_noteDown 107 = .ok (.iload 5, 2) := by decide +kernel
theorem dX10_noteDown_109 : decode cX10_noteDown 109 = .ok (.ifCond .eq 7, 3) := by decide +kernel
theorem dX10_noteDown_112 : decode cX10_noteDown 112 = .ok (.iconst 1, 1) := by decide +kernel
theorem dX10_noteDown_113 : decode cX10_noteDown 113 = .ok (.goto 4, 3) := by decide +kernel
theorem dX10_noteDown_116 : decode cX10_noteDown 116 = .ok (.iconst 0, 1) := by decide +kernel
theorem dX10_noteDown_117 : decode cX10_noteDown 117 = .ok (.iastore, 1) := by decide +kernel
theorem dX10_noteDown_118 : decode cX10_noteDown 118 = .ok (.aload_n 0, 1) := by decide +kernel
theorem dX10_noteDown_119 : decode cX10_noteDown 119 = .ok (.getfield 44, 3) := by decide +kernel
theorem dX10_noteDown_122 : decode cX10_noteDown 122 = .ok (.bipush 7, 2) := by decide +kernel
theorem dX10_noteDown_124 : decode cX10_noteDown 124 = .ok (.aload_n 0, 1) := by decide +kernel
theorem dX10_noteDown_125 : decode cX10_noteDown 125 = .ok (.getfield 163, 3) := by decide +kernel
theorem dX10_noteDown_128 : decode cX10_noteDown 128 = .ok (.l2i, 1) := by decide +kernel
theorem dX10_noteDown_129 : decode cX10_noteDown 129 = .ok (.iastore, 1) := by decide +kernel
theorem dX10_noteDown_130 : decode cX10_noteDown 130 = .ok (.aload_n 0, 1) := by decide +kernel
theorem dX10_noteDown_131 : decode cX10_noteDown 131 = .ok (.dup, 1) := by decide +kernel
theorem dX10_noteDown_132 : decode cX10_noteDown 132 = .ok (.getfield 280, 3) := by decide +kernel
theorem dX10_noteDown_135 : decode cX10_noteDown 135 = .ok (.aload_n 0, 1) := by decide +kernel
theorem dX10_noteDown_136 : decode cX10_noteDown 136 = .ok (.getfield 280, 3) := by decide +kernel
theorem dX10_noteDown_139 : decode cX10_noteDown 139 = .ok (.bipush 12, 2) := by decide +kernel
theorem dX10_noteDown_141 : decode cX10_noteDown 141 = .ok (.if_icmp .ge 7, 3) := by decide +kernel
theorem dX10_noteDown_144 : decode cX10_noteDown 144 = .ok (.iconst 1, 1) := by decide +kernel
theorem dX10_noteDown_145 : decode cX10_noteDown 145 = .ok (.goto 4, 3) := by decide +kernel
theorem dX10_noteDown_148 : decode cX10_noteDown 148 = .ok (.iconst 0, 1) := by decide +kernel
theorem dX10_noteDown_149 : decode cX10_noteDown 149 = .ok (.iadd, 1) := by decide +kernel
theorem dX10_noteDown_150 : decode cX10_noteDown 150 = .ok (.putfield 280, 3) := by decide +kernel
theorem dX10_noteDown_153 : decode cX10_noteDown 153 = .ok (.return_, 1) := by decide +kernel
set_option maxRecDepth 20000 in
theorem ggX10_takesReading_X10_findRange : GoodIn wsX10_takesReading wsX10_findRange := goodIn_r _ [18, 2, 3, 19, 8, 20, 21, 6, 22, 23, 24, 25, 26, 17, 27, 28, 29, 30, 31, 32, 33, 34, 35, 36, 37, 38, 39, 40, 41, 42, 43, 44, 45, 46, 47, 48, 49, 50, 51, 52, 53, 54, 55, 56, 57, 7, 58, 59, 60, 61, 62, 63, 64, 65, 66, 67, 68, 69, 70, 71, 72, 73, 74, 12, 75, 76, 77, 78, 79, 80, 81, 82, 83, 84, 85, 86, 87, 88, 89, 90, 91, 92, 126, 127, 128, 129, 130, 131, 132, 133, 134, 135, 136, 137, 138, 139, 140, 141, 142, 143, 144, 145, 146, 147, 148, 149, 150, 151, 152, 153, 154, 155, 156, 157, 158, 159, 160, 161, 162, 163, 164, 165, 166, 167, 168, 169, 170, 171, 172, 173, 174] (by decide +kernel) (by decide +kernel)
set_option maxRecDepth 20000 in
theorem gX10_takesReading_X10_findRange : GoodIn wsX10_takesReading (wsV RX10 283 RX10 yX10_findRange wsX10_findRange) := goodIn_app (goodIn_of _ (by decide +kernel)) ggX10_takesReading_X10_findRange
set_option maxRecDepth 20000 in
theorem ggX10_takesReading_X10_isZeroKept : GoodIn wsX10_takesReading wsX10_isZeroKept := goodIn_r _ [96, 4, 97, 6, 8, 98, 1, 126, 127, 128, 129, 130, 131, 132, 133, 134, 135, 136, 137, 138, 139, 140, 141, 142, 143, 144, 145, 146, 147, 148, 149, 150, 151, 152, 153, 154, 155, 156, 157, 158, 159, 160, 161, 162, 163, 164, 165, 166, 167, 168, 169, 170, 171, 172, 173, 174] (by decide +kernel) (by decide +kernel)
set_option maxRecDepth 20000 in
theorem gX10_takesReading_X10_isZeroKept : GoodIn wsX10_takesReading (wsV RX10 287 RX10 yX10_isZeroKept wsX10_isZeroKept) := goodIn_app (goodIn_of _ (by decide +kernel)) ggX10_takesReading_X10_isZeroKept
set_option maxRecDepth 20000 in
theorem ggX10_takesReading_X10_takeZero : GoodIn wsX10_takesReading wsX10_takeZero := goodIn_r _ [102, 5, 6, 3, 97, 8, 98, 1, 24, 25, 26, 17, 27, 28, 2, 29, 30, 31, 32, 33, 34, 35, 36, 37, 38, 39, 40, 41, 42, 43, 44, 45, 46, 47, 48, 49, 50, 51, 52, 53, 54, 55, 56, 57, 7, 58, 59, 60, 61, 62, 63, 64, 65, 66, 67, 68, 69, 70, 71, 72, 73, 74, 12, 75, 76, 77, 78, 79, 80, 81, 82, 83, 84, 85, 86, 87, 88, 89, 90, 91, 92, 126, 127, 128, 129, 130, 131, 132, 133, 134, 135, 136, 137, 138, 139, 140, 141, 142, 143, 144, 145, 146, 147, 148, 149, 150, 151, 152, 153, 154, 155, 156, 157, 158, 159, 160, 161, 162, 163, 164, 165, 166, 167, 168, 169, 170, 171, 172, 173, 174] (by decide +kernel) (by decide +kernel)
set_option maxRecDepth 20000 in
theorem gX10_takesReading_X10_takeZero : GoodIn wsX10_takesReading (wsV RX10 290 RX10 yX10_takeZero wsX10_takeZero) := goodIn_app (goodIn_of _ (by decide +kernel)) ggX10_takesReading_X10_takeZero
set_option maxRecDepth 20000 in
theorem ggX10_takesReading_X10_gain : GoodIn wsX10_takesReading wsX10_gain := goodIn_r _ [56, 6, 57, 7, 126, 127, 128, 129, 130, 131, 132, 133, 134, 135, 136, 137, 138, 139, 140, 141, 142, 143, 144, 145, 146, 147, 148, 149, 150, 151, 152, 153, 154, 155, 156, 157, 158, 159, 160, 161, 162, 163, 164, 165, 166, 167, 168, 169, 170, 171, 172, 173, 174] (by decide +kernel) (by decide +kernel)
set_option maxRecDepth 20000 in
theorem gX10_takesReading_X10_gain : GoodIn wsX10_takesReading (wsV RX10 180 RX10 yX10_gain wsX10_gain) := goodIn_app (goodIn_of _ (by decide +kernel)) ggX10_takesReading_X10_gain
set_option maxRecDepth 20000 in
theorem ggX10_takesReading_X10_comes : GoodIn wsX10_takesReading wsX10_comes := goodIn_r _ [106, 107, 108, 12, 109, 110, 111, 112, 113, 17, 114, 115, 116, 117, 118, 119, 126, 127, 128, 129, 130, 131, 132, 133, 134, 135, 136, 137, 138, 139, 140, 141, 142, 143, 144, 145, 146, 147, 148, 149, 150, 151, 152, 153, 154, 155, 156, 157, 158, 159, 160, 161, 162, 163, 164, 165, 166, 167, 168, 169, 170, 171, 172, 173, 174] (by decide +kernel) (by decide +kernel)
set_option maxRecDepth 20000 in
theorem gX10_takesReading_X10_comes : GoodIn wsX10_takesReading (wsV RX10 295 RX10 yX10_comes wsX10_comes) := goodIn_app (goodIn_of _ (by decide +kernel)) ggX10_takesReading_X10_comes
set_option maxRecDepth 20000 in
theorem ggX10_takesReading_X10_noteDown : GoodIn wsX10_takesReading wsX10_noteDown := goodIn_r _ [123, 124, 1, 12, 6, 46, 125, 126, 127, 128, 129, 130, 131, 132, 133, 134, 135, 136, 137, 138, 139, 140, 141, 142, 143, 144, 145, 146, 147, 148, 149, 150, 151, 152, 153, 154, 155, 156, 157, 158, 159, 160, 161, 162, 163, 164, 165, 166, 167, 168, 169, 170, 171, 172, 173, 174] (by decide +kernel) (by decide +kernel)
set_option maxRecDepth 20000 in
theorem gX10_takesReading_X10_noteDown : GoodIn wsX10_takesReading (wsV RX10 299 RX10 yX10_noteDown wsX10_noteDown) := goodIn_app (goodIn_of _ (by decide +kernel)) ggX10_takesReading_X10_noteDown
theorem dX10_takesReading_0 : decode cX10_takesReading 0 = .ok (.aload_n 0, 1) := by decide +kernel
theorem dX10_takesReading_1 : decode cX10_takesReading 1 = .ok (.dup, 1) := by decide +kernel
theorem dX10_takesReading_2 : decode cX10_takesReading 2 = .ok (.getfield 121, 3) := by decide +kernel
theorem dX10_takesReading_5 : decode cX10_takesReading 5 = .ok (.iconst 1, 1) := by decide +kernel
theorem dX10_takesReading_6 : decode cX10_takesReading 6 = .ok (.iadd, 1) := by decide +kernel
theorem dX10_takesReading_7 : decode cX10_takesReading 7 = .ok (.putfield 121, 3) := by decide +kernel
theorem dX10_takesReading_10 : decode cX10_takesReading 10 = .ok (.aload_n 0, 1) := by decide +kernel
theorem dX10_takesReading_11 : decode cX10_takesReading 11 = .ok (.invokevirtual 283, 3) := by decide +kernel
theorem dX10_takesReading_14 : decode cX10_takesReading 14 = .ok (.istore_n 1, 1) := by decide +kernel
theorem dX10_takesReading_15 : decode cX10_takesReading 15 = .ok (.aload_n 0, 1) := by decide +kernel
theorem dX10_takesReading_16 : decode cX10_takesReading 16 = .ok (.getfield 187, 3) := by decide +kernel
theorem dX10_takesReading_19 : decode cX10_takesReading 19 = .ok (.istore_n 2, 1) := by decide +kernel
theorem dX10_takesReading_20 : decode cX10_takesReading 20 = .ok (.aload_n 0, 1) := by decide +kernel
theorem dX10_takesReading_21 : decode cX10_takesReading 21 = .ok (.getfield 237, 3) := by decide +kernel
theorem dX10_takesReading_24 : decode cX10_takesReading 24 = .ok (.lstore_n 3, 1) := by decide +kernel
theorem dX10_takesReading_25 : decode cX10_takesReading 25 = .ok (.lconst 0, 1) := by decide +kernel
theorem dX10_takesReading_26 : decode cX10_takesReading 26 = .ok (.lstore 5, 2) := by decide +kernel
theorem dX10_takesReading_28 : decode cX10_takesReading 28 = .ok (.aload_n 0, 1) := by decide +kernel
theorem dX10_takesReading_29 : decode cX10_takesReading 29 = .ok (.getfield 21, 3) := by decide +kernel
theorem dX10_takesReading_32 : decode cX10_takesReading 32 = .ok (.ifCond .le 28, 3) := by decide +kernel
theorem dX10_takesReading_35 : decode cX10_takesReading 35 = .ok (.aload_n 0, 1) := by decide +kernel
theorem dX10_takesReading_36 : decode cX10_takesReading 36 = .ok (.invokevirtual 287, 3) := by decide +kernel
theorem dX10_takesReading_39 : decode cX10_takesReading 39 = .ok (.ifCond .ne 10, 3) := by decide +kernel
theorem dX10_takesReading_42 : decode cX10_takesReading 42 = .ok (.aload_n 0, 1) := by decide +kernel
theorem dX10_takesReading_43 : decode cX10_takesReading 43 = .ok (.invokevirtual 290, 3) := by decide +kernel
theorem dX10_takesReading_46 : decode cX10_takesReading 46 = .ok (.iinc 1 1, 3) := by decide +kernel
theorem dX10_takesReading_49 : decode cX10_takesReading 49 = .ok (.aload_n 0, 1) := by decide +kernel
theorem dX10_takesReading_50 : decode cX10_takesReading 50 = .ok (.getfield 31, 3) := by decide +kernel
theorem dX10_takesReading_53 : decode cX10_takesReading 53 = .ok (.aload_n 0, 1) := by decide +kernel
theorem dX10_takesReading_54 : decode cX10_takesReading 54 = .ok (.getfield 95, 3) := by decide +kernel
theorem dX10_takesReading_57 : decode cX10_takesReading 57 = .ok (.laload, 1) := by decide +kernel
theorem dX10_takesReading_58 : decode cX10_takesReading 58 = .ok (.lstore 5, 2) := by decide +kernel
theorem dX10_takesReading_60 : decode cX10_takesReading 60 = .ok (.lload_n 3, 1) := by decide +kernel
theorem dX10_takesReading_61 : decode cX10_takesReading 61 = .ok (.lload 5, 2) := by decide +kernel
theorem dX10_takesReading_63 : decode cX10_takesReading 63 = .ok (.lsub, 1) := by decide +kernel
theorem dX10_takesReading_64 : decode cX10_takesReading 64 = .ok (.ldc2_w 178, 3) := by decide +kernel
theorem dX10_takesReading_67 : decode cX10_takesReading 67 = .ok (.lmul, 1) := by decide +kernel
theorem dX10_takesReading_68 : decode cX10_takesReading 68 = .ok (.aload_n 0, 1) := by decide +kernel
theorem dX10_takesReading_69 : decode cX10_takesReading 69 = .ok (.getfield 17, 3) := by decide +kernel
theorem dX10_takesReading_72 : decode cX10_takesReading 72 = .ok (.i2l, 1) := by decide +kernel
theorem dX10_takesReading_73 : decode cX10_takesReading 73 = .ok (.aload_n 0, 1) := by decide +kernel
theorem dX10_takesReading_74 : decode cX10_takesReading 74 = .ok (.invokevirtual 180, 3) := by decide +kernel
theorem dX10_takesReading_77 : decode cX10_takesReading 77 = .ok (.lmul, 1) := by decide +kernel
theorem dX10_takesReading_78 : decode cX10_takesReading 78 = .ok (.ldiv, 1) := by decide +kernel
theorem dX10_takesReading_79 : decode cX10_takesReading 79 = .ok (.lstore 7, 2) := by decide +kernel
theorem dX10_takesReading_81 : decode cX10_takesReading 81 = .ok (.lload 7, 2) := by decide +kernel
theorem dX10_takesReading_83 : decode cX10_takesReading 83 = .ok (.lload 7, 2) := by decide +kernel
theorem dX10_takesReading_85 : decode cX10_takesReading 85 = .ok (.ldc2_w 293, 3) := by decide +kernel
theorem dX10_takesReading_88 : decode cX10_takesReading 88 = .ok (.ldiv, 1) := by decide +kernel
theorem dX10_takesReading_89 : decode cX10_takesReading 89 = .ok (.aload_n 0, 1) := by decide +kernel
theorem dX10_takesReading_90 : decode cX10_takesReading 90 = .ok (.getfield 145, 3) := by decide +kernel
theorem dX10_takesReading_93 : decode cX10_takesReading 93 = .ok (.i2l, 1) := by decide +kernel
theorem dX10_takesReading_94 : decode cX10_takesReading 94 = .ok (.lmul, 1) := by decide +kernel
theorem dX10_takesReading_95 : decode cX10_takesReading 95 = .ok (.ladd, 1) := by decide +kernel
theorem dX10_takesReading_96 : decode cX10_takesReading 96 = .ok (.aload_n 0, 1) := by decide +kernel
theorem dX10_takesReading_97 : decode cX10_takesReading 97 = .ok (.getfield 148, 3) := by decide +kernel
theorem dX10_takesReading_100 : decode cX10_takesReading 100 = .ok (.i2l, 1) := by decide +kernel
theorem dX10_takesReading_101 : decode cX10_takesReading 101 = .ok (.ldc2_w 157, 3) := by decide +kernel
theorem dX10_takesReading_104 : decode cX10_takesReading 104 = .ok (.lmul, 1) := by decide +kernel
theorem dX10_takesReading_105 : decode cX10_takesReading 105 = .ok (.ladd, 1) := by decide +kernel
theorem dX10_takesReading_106 : decode cX10_takesReading 106 = .ok (.lstore 9, 2) := by decide +kernel
theorem dX10_takesReading_108 : decode cX10_takesReading 108 = .ok (.iload_n 2, 1) := by decide +kernel
theorem dX10_takesReading_109 : decode cX10_takesReading 109 = .ok (.ifCond .ne 16, 3) := by decide +kernel
theorem dX10_takesReading_112 : decode cX10_takesReading 112 = .ok (.aload_n 0, 1) := by decide +kernel
theorem dX10_takesReading_113 : decode cX10_takesReading 113 = .ok (.lload 9, 2) := by decide +kernel
theorem dX10_takesReading_115 : decode cX10_takesReading 115 = .ok (.invokevirtual 295, 3) := by decide +kernel
theorem dX10_takesReading_118 : decode cX10_takesReading 118 = .ok (.ifCond .eq 7, 3) := by decide +kernel
theorem dX10_takesReading_121 : decode cX10_takesReading 121 = .ok (.iconst 1, 1) := by decide +kernel
theorem dX10_takesReading_122 : decode cX10_takesReading 122 = .ok (.goto 4, 3) := by decide +kernel
theorem dX10_takesReading_125 : decode cX10_takesReading 125 = .ok (.iconst 0, 1) := by decide +kernel
theorem dX10_takesReading_126 : decode cX10_takesReading 126 = .ok (.istore 11, 2) := by decide +kernel
theorem dX10_takesReading_128 : decode cX10_takesReading 128 = .ok (.aload_n 0, 1) := by decide +kernel
theorem dX10_takesReading_129 : decode cX10_takesReading 129 = .ok (.lload 9, 2) := by decide +kernel
theorem dX10_takesReading_131 : decode cX10_takesReading 131 = .ok (.iload_n 2, 1) := by decide +kernel
theorem dX10_takesReading_132 : decode cX10_takesReading 132 = .ok (.iload_n 1, 1) := by decide +kernel
theorem dX10_takesReading_133 : decode cX10_takesReading 133 = .ok (.iload 11, 2) := by decide +kernel
theorem dX10_takesReading_135 : decode cX10_takesReading 135 = .ok (.invokevirtual 299, 3) := by decide +kernel
theorem dX10_takesReading_138 : decode cX10_takesReading 138 = .ok (.aload_n 0, 1) := by decide +kernel
theorem dX10_takesReading_139 : decode cX10_takesReading 139 = .ok (.dup, 1) := by decide +kernel
theorem dX10_takesReading_140 : decode cX10_takesReading 140 = .ok (.getfield 303, 3) := by decide +kernel
theorem dX10_takesReading_143 : decode cX10_takesReading 143 = .ok (.iload_n 2, 1) := by decide +kernel
theorem dX10_takesReading_144 : decode cX10_takesReading 144 = .ok (.ifCond .eq 7, 3) := by decide +kernel
theorem dX10_takesReading_147 : decode cX10_takesReading 147 = .ok (.iconst 1, 1) := by decide +kernel
theorem dX10_takesReading_148 : decode cX10_takesReading 148 = .ok (.goto 4, 3) := by decide +kernel
theorem dX10_takesReading_151 : decode cX10_takesReading 151 = .ok (.iconst 0, 1) := by decide +kernel
theorem dX10_takesReading_152 : decode cX10_takesReading 152 = .ok (.iadd, 1) := by decide +kernel
theorem dX10_takesReading_153 : decode cX10_takesReading 153 = .ok (.putfield 303, 3) := by decide +kernel
theorem dX10_takesReading_156 : decode cX10_takesReading 156 = .ok (.iload_n 2, 1) := by decide +kernel
theorem dX10_takesReading_157 : decode cX10_takesReading 157 = .ok (.ireturn, 1) := by decide +kernel
set_option maxRecDepth 20000 in
theorem ggX10_goNow_X10_takesReading : GoodIn wsX10_goNow wsX10_takesReading := goodIn_r _ [5, 6, 7, 8, 9, 10, 11, 12, 13, 14, 15, 16, 17, 18, 19, 20, 21, 4, 22, 23, 24, 25, 26, 27, 28, 29, 30, 31, 32, 33, 34, 35, 36, 37, 38, 39, 40, 41, 42, 43, 44, 45, 46, 47, 48, 49, 50, 51, 52, 53, 54, 55, 56, 57, 58, 59, 60, 61, 62, 63, 64, 65, 66, 67, 68, 69, 70, 71, 72, 73, 74, 75, 76, 77, 78, 79, 80, 81, 82, 83, 84, 85, 86, 87, 88, 89, 90, 91, 92, 93, 94, 95, 96, 97, 98, 99, 100, 101, 102, 103, 104, 105, 106, 107, 108, 109, 110, 111, 112, 113, 114, 115, 116, 117, 118, 119, 120, 121, 122, 123, 124, 125, 126, 127, 128, 129, 130, 131, 132, 133, 134, 135, 136, 137, 138, 139, 140, 141, 142, 143, 144, 145, 146, 147, 148, 149, 150, 151, 152, 153, 154, 155, 156, 157, 158, 159, 160, 161, 162, 163, 164, 165, 166, 167, 168, 169, 170, 171, 172, 173, 174, 175, 176, 177, 178] (by decide +kernel) (by decide +kernel)
set_option maxRecDepth 20000 in
theorem gX10_goNow_X10_takesReading : GoodIn wsX10_goNow (wsV RX10 306 RX10 yX10_takesReading wsX10_takesReading) := goodIn_app (goodIn_of _ (by decide +kernel)) ggX10_goNow_X10_takesReading
theorem dX10_goNow_0 : decode cX10_goNow 0 = .ok (.iconst 0, 1) := by decide +kernel
theorem dX10_goNow_1 : decode cX10_goNow 1 = .ok (.istore_n 2, 1) := by decide +kernel
theorem dX10_goNow_2 : decode cX10_goNow 2 = .ok (.iconst 0, 1) := by decide +kernel
theorem dX10_goNow_3 : decode cX10_goNow 3 = .ok (.istore_n 3, 1) := by decide +kernel
theorem dX10_goNow_4 : decode cX10_goNow 4 = .ok (.iload_n 3, 1) := by decide +kernel
theorem dX10_goNow_5 : decode cX10_goNow 5 = .ok (.iload_n 1, 1) := by decide +kernel
theorem dX10_goNow_6 : decode cX10_goNow 6 = .ok (.if_icmp .ge 24, 3) := by decide +kernel
theorem dX10_goNow_9 : decode cX10_goNow 9 = .ok (.iload_n 2, 1) := by decide +kernel
theorem dX10_goNow_10 : decode cX10_goNow 10 = .ok (.aload_n 0, 1) := by decide +kernel
theorem dX10_goNow_11 : decode cX10_goNow 11 = .ok (.invokevirtual 306, 3) := by decide +kernel
theorem dX10_goNow_14 : decode cX10_goNow 14 = .ok (.ifCond .eq 7, 3) := by decide +kernel
theorem dX10_goNow_17 : decode cX10_goNow 17 = .ok (.iconst 1, 1) := by decide +kernel
theorem dX10_goNow_18 : decode cX10_goNow 18 = .ok (.goto 4, 3) := by decide +kernel
theorem dX10_goNow_21 : decode cX10_goNow 21 = .ok (.iconst 0, 1) := by decide +kernel
theorem dX10_goNow_22 : decode cX10_goNow 22 = .ok (.iadd, 1) := by decide +kernel
theorem dX10_goNow_23 : decode cX10_goNow 23 = .ok (.istore_n 2, 1) := by decide +kernel
theorem dX10_goNow_24 : decode cX10_goNow 24 = .ok (.iinc 3 1, 3) := by decide +kernel
theorem dX10_goNow_27 : decode cX10_goNow 27 = .ok (.goto (-23), 3) := by decide +kernel
theorem dX10_goNow_30 : decode cX10_goNow 30 = .ok (.iload_n 2, 1) := by decide +kernel
theorem dX10_goNow_31 : decode cX10_goNow 31 = .ok (.ireturn, 1) := by decide +kernel
set_option maxRecDepth 20000 in
theorem ggX10_go_X10_within : GoodIn wsX10_go wsX10_within := goodIn_r _ [5] (by decide +kernel) (by decide +kernel)
set_option maxRecDepth 20000 in
theorem gX10_go_X10_within : GoodIn wsX10_go (va_wsS RX10 50 yX10_within wsX10_within) := goodIn_app (goodIn_of _ (by decide +kernel)) ggX10_go_X10_within
set_option maxRecDepth 20000 in
theorem ggX10_go_X10_goNow : GoodIn wsX10_go wsX10_goNow := goodIn_r _ [9, 10, 11, 12, 4, 13, 14, 15, 16, 17, 18, 19, 20, 21, 22, 23, 24, 25, 26, 27, 28, 29, 30, 31, 32, 33, 34, 35, 36, 37, 38, 39, 40, 41, 42, 43, 44, 45, 46, 47, 48, 49, 50, 51, 52, 53, 54, 55, 56, 57, 58, 59, 60, 61, 62, 63, 64, 65, 66, 67, 68, 69, 70, 71, 72, 73, 74, 75, 76, 77, 78, 79, 80, 81, 82, 83, 84, 85, 86, 87, 88, 89, 90, 91, 92, 93, 94, 95, 96, 97, 98, 99, 100, 101, 102, 103, 104, 105, 106, 107, 108, 109, 110, 111, 112, 113, 114, 115, 116, 117, 118, 119, 120, 121, 122, 123, 124, 125, 126, 127, 128, 129, 130, 131, 132, 133, 134, 135, 136, 137, 138, 139, 140, 141, 142, 143, 144, 145, 146, 147, 148, 149, 150, 151, 152, 153, 154, 155, 156, 157, 158, 159, 160, 161, 162, 163, 164, 165, 166, 167, 168, 169, 170, 171, 172, 173, 174, 175, 176, 177, 178, 179, 180, 181, 182, 183, 184, 185, 186] (by decide +kernel) (by decide +kernel)
set_option maxRecDepth 20000 in
theorem gX10_go_X10_goNow : GoodIn wsX10_go (wsV RX10 107 RX10 yX10_goNow wsX10_goNow) := goodIn_app (goodIn_of _ (by decide +kernel)) ggX10_go_X10_goNow
theorem dX10_go_0 : decode cX10_go 0 = .ok (.iload_n 1, 1) := by decide +kernel
theorem dX10_go_1 : decode cX10_go 1 = .ok (.iconst 1, 1) := by decide +kernel
theorem dX10_go_2 : decode cX10_go 2 = .ok (.bipush 8, 2) := by decide +kernel
theorem dX10_go_4 : decode cX10_go 4 = .ok (.invokestatic 50, 3) := by decide +kernel
theorem dX10_go_7 : decode cX10_go 7 = .ok (.ifCond .eq 11, 3) := by decide +kernel
theorem dX10_go_10 : decode cX10_go 10 = .ok (.aload_n 0, 1) := by decide +kernel
theorem dX10_go_11 : decode cX10_go 11 = .ok (.iload_n 1, 1) := by decide +kernel
theorem dX10_go_12 : decode cX10_go 12 = .ok (.invokevirtual 107, 3) := by decide +kernel
theorem dX10_go_15 : decode cX10_go 15 = .ok (.goto 5, 3) := by decide +kernel
theorem dX10_go_18 : decode cX10_go 18 = .ok (.ldc 54, 2) := by decide +kernel
theorem dX10_go_20 : decode cX10_go 20 = .ok (.ireturn, 1) := by decide +kernel
theorem dX10_clear_0 : decode cX10_clear 0 = .ok (.aload_n 0, 1) := by decide +kernel
theorem dX10_clear_1 : decode cX10_clear 1 = .ok (.getfield 271, 3) := by decide +kernel
theorem dX10_clear_4 : decode cX10_clear 4 = .ok (.istore_n 1, 1) := by decide +kernel
theorem dX10_clear_5 : decode cX10_clear 5 = .ok (.aload_n 0, 1) := by decide +kernel
theorem dX10_clear_6 : decode cX10_clear 6 = .ok (.iconst 0, 1) := by decide +kernel
theorem dX10_clear_7 : decode cX10_clear 7 = .ok (.putfield 271, 3) := by decide +kernel
theorem dX10_clear_10 : decode cX10_clear 10 = .ok (.iconst 0, 1) := by decide +kernel
theorem dX10_clear_11 : decode cX10_clear 11 = .ok (.istore_n 2, 1) := by decide +kernel
theorem dX10_clear_12 : decode cX10_clear 12 = .ok (.iload_n 2, 1) := by decide +kernel
theorem dX10_clear_13 : decode cX10_clear 13 = .ok (.iconst 3, 1) := by decide +kernel
theorem dX10_clear_14 : decode cX10_clear 14 = .ok (.if_icmp .ge 16, 3) := by decide +kernel
theorem dX10_clear_17 : decode cX10_clear 17 = .ok (.aload_n 0, 1) := by decide +kernel
theorem dX10_clear_18 : decode cX10_clear 18 = .ok (.getfield 35, 3) := by decide +kernel
theorem dX10_clear_21 : decode cX10_clear 21 = .ok (.iload_n 2, 1) := by decide +kernel
theorem dX10_clear_22 : decode cX10_clear 22 = .ok (.iconst 0, 1) := by decide +kernel
theorem dX10_clear_23 : decode cX10_clear 23 = .ok (.iastore, 1) := by decide +kernel
theorem dX10_clear_24 : decode cX10_clear 24 = .ok (.iinc 2 1, 3) := by decide +kernel
theorem dX10_clear_27 : decode cX10_clear 27 = .ok (.goto (-15), 3) := by decide +kernel
theorem dX10_clear_30 : decode cX10_clear 30 = .ok (.iload_n 1, 1) := by decide +kernel
theorem dX10_clear_31 : decode cX10_clear 31 = .ok (.ireturn, 1) := by decide +kernel
theorem dX10_latestNow_0 : decode cX10_latestNow 0 = .ok (.iload_n 1, 1) := by decide +kernel
theorem dX10_latestNow_1 : decode cX10_latestNow 1 = .ok (.tableswitch 167 0 14 #[75, 80, 85, 167, 167, 167, 167, 90, 96, 109, 119, 129, 139, 149, 162], 75) := by decide +kernel
theorem dX10_latestNow_76 : decode cX10_latestNow 76 = .ok (.aload_n 0, 1) := by decide +kernel
theorem dX10_latestNow_77 : decode cX10_latestNow 77 = .ok (.getfield 206, 3) := by decide +kernel
theorem dX10_latestNow_80 : decode cX10_latestNow 80 = .ok (.ireturn, 1) := by decide +kernel
theorem dX10_latestNow_81 : decode cX10_latestNow 81 = .ok (.aload_n 0, 1) := by decide +kernel
theorem dX10_latestNow_82 : decode cX10_latestNow 82 = .ok (.getfield 209, 3) := by decide +kernel
theorem dX10_latestNow_85 : decode cX10_latestNow 85 = .ok (.ireturn, 1) := by decide +kernel
theorem dX10_latestNow_86 : decode cX10_latestNow 86 = .ok (.aload_n 0, 1) := by decide +kernel
theorem dX10_latestNow_87 : decode cX10_latestNow 87 = .ok (.getfield 212, 3) := by decide +kernel
theorem dX10_latestNow_90 : decode cX10_latestNow 90 = .ok (.ireturn, 1) := by decide +kernel
theorem dX10_latestNow_91 : decode cX10_latestNow 91 = .ok (.aload_n 0, 1) := by decide +kernel
theorem dX10_latestNow_92 : decode cX10_latestNow 92 = .ok (.getfield 194, 3) := by decide +kernel
theorem dX10_latestNow_95 : decode cX10_latestNow 95 = .ok (.l2i, 1) := by decide +kernel
theorem dX10_latestNow_96 : decode cX10_latestNow 96 = .ok (.ireturn, 1) := by decide +kernel
theorem dX10_latestNow_97 : decode cX10_latestNow 97 = .ok (.aload_n 0, 1) := by decide +kernel
theorem dX10_latestNow_98 : decode cX10_latestNow 98 = .ok (.getfield 187, 3) := by decide +kernel
theorem dX10_latestNow_101 : decode cX10_latestNow 101 = .ok (.ifCond .eq 7, 3) := by decide +kernel
theorem dX10_latestNow_104 : decode cX10_latestNow 104 = .ok (.iconst 1, 1) := by decide +kernel
theorem dX10_latestNow_105 : decode cX10_latestNow 105 = .ok (.goto 4, 3) := by decide +kernel
theorem dX10_latestNow_108 : decode cX10_latestNow 108 = .ok (.iconst 0, 1) := by decide +kernel
theorem dX10_latestNow_109 : decode cX10_latestNow 109 = .ok (.ireturn, 1) := by decide +kernel
theorem dX10_latestNow_110 : decode cX10_latestNow 110 = .ok (.aload_n 0, 1) := by decide +kernel
theorem dX10_latestNow_111 : decode cX10_latestNow 111 = .ok (.getfield 237, 3) := by decide +kernel
theorem dX10_latestNow_114 : decode cX10_latestNow 114 = .ok (.ldc2_w 293, 3) := by decide +kernel
theorem dX10_latestNow_117 : decode cX10_latestNow 117 = .ok (.ldiv, 1) := by decide +kernel
theorem dX10_latestNow_118 : decode cX10_latestNow 118 = .ok (.l2i, 1) := by decide +kernel
theorem dX10_latestNow_119 : decode cX10_latestNow 119 = .ok (.ireturn, 1) := by decide +kernel
theorem dX10_latestNow_120 : decode cX10_latestNow 120 = .ok (.aload_n 0, 1) := by decide +kernel
theorem dX10_latestNow_121 : decode cX10_latestNow 121 = .ok (.getfield 237, 3) := by decide +kernel
theorem dX10_latestNow_124 : decode cX10_latestNow 124 = .ok (.ldc2_w 293, 3) := by decide +kernel
theorem dX10_latestNow_127 : decode cX10_latestNow 127 = .ok (.lrem, 1) := by decide +kernel
theorem dX10_latestNow_128 : decode cX10_latestNow 128 = .ok (.l2i, 1) := by decide +kernel
theorem dX10_latestNow_129 : decode cX10_latestNow 129 = .ok (.ireturn, 1) := by decide +kernel
theorem dX10_latestNow_130 : decode cX10_latestNow 130 = .ok (.aload_n 0, 1) := by decide +kernel
theorem dX10_latestNow_131 : decode cX10_latestNow 131 = .ok (.getfield 201, 3) := by decide +kernel
theorem dX10_latestNow_134 : decode cX10_latestNow 134 = .ok (.ldc2_w 293, 3) := by decide +kernel
theorem dX10_latestNow_137 : decode cX10_latestNow 137 = .ok (.ldiv, 1) := by decide +kernel
theorem dX10_latestNow_138 : decode cX10_latestNow 138 = .ok (.l2i, 1) := by decide +kernel
theorem dX10_latestNow_139 : decode cX10_latestNow 139 = .ok (.ireturn, 1) := by decide +kernel
theorem dX10_latestNow_140 : decode cX10_latestNow 140 = .ok (.aload_n 0, 1) := by decide +kernel
theorem dX10_latestNow_141 : decode cX10_latestNow 141 = .ok (.getfield 201, 3) := by decide +kernel
theorem dX10_latestNow_144 : decode cX10_latestNow 144 = .ok (.ldc2_w 293, 3) := by decide +kernel
theorem dX10_latestNow_147 : decode cX10_latestNow 147 = .ok (.lrem, 1) := by decide +kernel
theorem dX10_latestNow_148 : decode cX10_latestNow 148 = .ok (.l2i, 1) := by decide +kernel
theorem dX10_latestNow_149 : decode cX10_latestNow 149 = .ok (.ireturn, 1) := by decide +kernel
theorem dX10_latestNow_150 : decode cX10_latestNow 150 = .ok (.aload_n 0, 1) := by decide +kernel
theorem dX10_latestNow_151 : decode cX10_latestNow 151 = .ok (.getfield 227, 3) := by decide +kernel
theorem dX10_latestNow_154 : decode cX10_latestNow 154 = .ok (.ifCond .eq 7, 3) := by decide +kernel
theorem dX10_latestNow_157 : decode cX10_latestNow 157 = .ok (.iconst 1, 1) := by decide +kernel
theorem dX10_latestNow_158 : decode cX10_latestNow 158 = .ok (.goto 4, 3) := by decide +kernel
theorem dX10_latestNow_161 : decode cX10_latestNow 161 = .ok (.iconst 0, 1) := by decide +kernel
theorem dX10_latestNow_162 : decode cX10_latestNow 162 = .ok (.ireturn, 1) := by decide +kernel
theorem dX10_latestNow_163 : decode cX10_latestNow 163 = .ok (.aload_n 0, 1) := by decide +kernel
theorem dX10_latestNow_164 : decode cX10_latestNow 164 = .ok (.getfield 230, 3) := by decide +kernel
theorem dX10_latestNow_167 : decode cX10_latestNow 167 = .ok (.ireturn, 1) := by decide +kernel
theorem dX10_latestNow_168 : decode cX10_latestNow 168 = .ok (.aload_n 0, 1) := by decide +kernel
theorem dX10_latestNow_169 : decode cX10_latestNow 169 = .ok (.getfield 27, 3) := by decide +kernel
theorem dX10_latestNow_172 : decode cX10_latestNow 172 = .ok (.iload_n 1, 1) := by decide +kernel
theorem dX10_latestNow_173 : decode cX10_latestNow 173 = .ok (.iconst 3, 1) := by decide +kernel
theorem dX10_latestNow_174 : decode cX10_latestNow 174 = .ok (.isub, 1) := by decide +kernel
theorem dX10_latestNow_175 : decode cX10_latestNow 175 = .ok (.iaload, 1) := by decide +kernel
theorem dX10_latestNow_176 : decode cX10_latestNow 176 = .ok (.ireturn, 1) := by decide +kernel
set_option maxRecDepth 20000 in
theorem ggX10_latest_X10_within : GoodIn wsX10_latest wsX10_within := goodIn_r _ [7] (by decide +kernel) (by decide +kernel)
set_option maxRecDepth 20000 in
theorem gX10_latest_X10_within : GoodIn wsX10_latest (va_wsS RX10 50 yX10_within wsX10_within) := goodIn_app (goodIn_of _ (by decide +kernel)) ggX10_latest_X10_within
set_option maxRecDepth 20000 in
theorem ggX10_latest_X10_latestNow : GoodIn wsX10_latest wsX10_latestNow := goodIn_r _ [11, 12, 13, 14, 15, 16, 17, 18, 19, 20, 21, 22, 23, 24, 25, 26, 27, 28, 29, 30, 31, 32, 33, 34, 35, 36, 37, 38, 39, 40, 41, 42, 43, 44, 45, 46, 47, 48, 49, 50, 51, 52, 53, 54, 55, 56, 57, 58, 59, 60, 61, 62, 63, 64, 65, 66, 67, 68, 69, 70, 71] (by decide +kernel) (by decide +kernel)
set_option maxRecDepth 20000 in
theorem gX10_latest_X10_latestNow : GoodIn wsX10_latest (wsV RX10 309 RX10 yX10_latestNow wsX10_latestNow) := goodIn_app (goodIn_of _ (by decide +kernel)) ggX10_latest_X10_latestNow
theorem dX10_latest_0 : decode cX10_latest 0 = .ok (.iload_n 1, 1) := by decide +kernel
theorem dX10_latest_1 : decode cX10_latest 1 = .ok (.iconst 0, 1) := by decide +kernel
theorem dX10_latest_2 : decode cX10_latest 2 = .ok (.bipush 14, 2) := by decide +kernel
theorem dX10_latest_4 : decode cX10_latest 4 = .ok (.invokestatic 50, 3) := by decide +kernel
theorem dX10_latest_7 : decode cX10_latest 7 = .ok (.ifCond .ne 6, 3) := by decide +kernel
theorem dX10_latest_10 : decode cX10_latest 10 = .ok (.ldc 54, 2) := by decide +kernel
theorem dX10_latest_12 : decode cX10_latest 12 = .ok (.ireturn, 1) := by decide +kernel
theorem dX10_latest_13 : decode cX10_latest 13 = .ok (.aload_n 0, 1) := by decide +kernel
theorem dX10_latest_14 : decode cX10_latest 14 = .ok (.getfield 224, 3) := by decide +kernel
theorem dX10_latest_17 : decode cX10_latest 17 = .ok (.ifCond .eq 11, 3) := by decide +kernel
theorem dX10_latest_20 : decode cX10_latest 20 = .ok (.aload_n 0, 1) := by decide +kernel
theorem dX10_latest_21 : decode cX10_latest 21 = .ok (.iload_n 1, 1) := by decide +kernel
theorem dX10_latest_22 : decode cX10_latest 22 = .ok (.invokevirtual 309, 3) := by decide +kernel
theorem dX10_latest_25 : decode cX10_latest 25 = .ok (.goto 5, 3) := by decide +kernel
theorem dX10_latest_28 : decode cX10_latest 28 = .ok (.ldc 120, 2) := by decide +kernel
theorem dX10_latest_30 : decode cX10_latest 30 = .ok (.ireturn, 1) := by decide +kernel
set_option maxRecDepth 20000 in
theorem ggX10_reading_X10_within : GoodIn wsX10_reading wsX10_within := goodIn_r _ [8] (by decide +kernel) (by decide +kernel)
set_option maxRecDepth 20000 in
theorem gX10_reading_X10_within : GoodIn wsX10_reading (va_wsS RX10 50 yX10_within wsX10_within) := goodIn_app (goodIn_of _ (by decide +kernel)) ggX10_reading_X10_within
theorem dX10_reading_0 : decode cX10_reading 0 = .ok (.iload_n 1, 1) := by decide +kernel
theorem dX10_reading_1 : decode cX10_reading 1 = .ok (.iconst 0, 1) := by decide +kernel
theorem dX10_reading_2 : decode cX10_reading 2 = .ok (.aload_n 0, 1) := by decide +kernel
theorem dX10_reading_3 : decode cX10_reading 3 = .ok (.getfield 280, 3) := by decide +kernel
theorem dX10_reading_6 : decode cX10_reading 6 = .ok (.iconst 1, 1) := by decide +kernel
theorem dX10_reading_7 : decode cX10_reading 7 = .ok (.isub, 1) := by decide +kernel
theorem dX10_reading_8 : decode cX10_reading 8 = .ok (.invokestatic 50, 3) := by decide +kernel
theorem dX10_reading_11 : decode cX10_reading 11 = .ok (.ifCond .ne 7, 3) := by decide +kernel
theorem dX10_reading_14 : decode cX10_reading 14 = .ok (.ldc_w 312, 3) := by decide +kernel
theorem dX10_reading_17 : decode cX10_reading 17 = .ok (.ireturn, 1) := by decide +kernel
theorem dX10_reading_18 : decode cX10_reading 18 = .ok (.iload_n 2, 1) := by decide +kernel
theorem dX10_reading_19 : decode cX10_reading 19 = .ok (.iconst 0, 1) := by decide +kernel
theorem dX10_reading_20 : decode cX10_reading 20 = .ok (.bipush 7, 2) := by decide +kernel
theorem dX10_reading_22 : decode cX10_reading 22 = .ok (.invokestatic 50, 3) := by decide +kernel
theorem dX10_reading_25 : decode cX10_reading 25 = .ok (.ifCond .eq 17, 3) := by decide +kernel
theorem dX10_reading_28 : decode cX10_reading 28 = .ok (.aload_n 0, 1) := by decide +kernel
theorem dX10_reading_29 : decode cX10_reading 29 = .ok (.getfield 44, 3) := by decide +kernel
theorem dX10_reading_32 : decode cX10_reading 32 = .ok (.bipush 8, 2) := by decide +kernel
theorem dX10_reading_34 : decode cX10_reading 34 = .ok (.iload_n 1, 1) := by decide +kernel
theorem dX10_reading_35 : decode cX10_reading 35 = .ok (.imul, 1) := by decide +kernel
theorem dX10_reading_36 : decode cX10_reading 36 = .ok (.iload_n 2, 1) := by decide +kernel
theorem dX10_reading_37 : decode cX10_reading 37 = .ok (.iadd, 1) := by decide +kernel
theorem dX10_reading_38 : decode cX10_reading 38 = .ok (.iaload, 1) := by decide +kernel
theorem dX10_reading_39 : decode cX10_reading 39 = .ok (.goto 5, 3) := by decide +kernel
theorem dX10_reading_42 : decode cX10_reading 42 = .ok (.ldc 54, 2) := by decide +kernel
theorem dX10_reading_44 : decode cX10_reading 44 = .ok (.ireturn, 1) := by decide +kernel
theorem dX10_bound_0 : decode cX10_bound 0 = .ok (.aload_n 0, 1) := by decide +kernel
theorem dX10_bound_1 : decode cX10_bound 1 = .ok (.getfield 271, 3) := by decide +kernel
theorem dX10_bound_4 : decode cX10_bound 4 = .ok (.ifCond .ne 7, 3) := by decide +kernel
theorem dX10_bound_7 : decode cX10_bound 7 = .ok (.lconst 0, 1) := by decide +kernel
theorem dX10_bound_8 : decode cX10_bound 8 = .ok (.goto 9, 3) := by decide +kernel
theorem dX10_bound_11 : decode cX10_bound 11 = .ok (.aload_n 0, 1) := by decide +kernel
theorem dX10_bound_12 : decode cX10_bound 12 = .ok (.getfield 41, 3) := by decide +kernel
theorem dX10_bound_15 : decode cX10_bound 15 = .ok (.iconst 0, 1) := by decide +kernel
theorem dX10_bound_16 : decode cX10_bound 16 = .ok (.laload, 1) := by decide +kernel
theorem dX10_bound_17 : decode cX10_bound 17 = .ok (.lstore_n 2, 1) := by decide +kernel
theorem dX10_bound_18 : decode cX10_bound 18 = .ok (.iconst 1, 1) := by decide +kernel
theorem dX10_bound_19 : decode cX10_bound 19 = .ok (.istore 4, 2) := by decide +kernel
theorem dX10_bound_21 : decode cX10_bound 21 = .ok (.iload 4, 2) := by decide +kernel
theorem dX10_bound_23 : decode cX10_bound 23 = .ok (.aload_n 0, 1) := by decide +kernel
theorem dX10_bound_24 : decode cX10_bound 24 = .ok (.getfield 271, 3) := by decide +kernel
theorem dX10_bound_27 : decode cX10_bound 27 = .ok (.if_icmp .ge 52, 3) := by decide +kernel
theorem dX10_bound_30 : decode cX10_bound 30 = .ok (.iload_n 1, 1) := by decide +kernel
theorem dX10_bound_31 : decode cX10_bound 31 = .ok (.ifCond .eq 18, 3) := by decide +kernel
theorem dX10_bound_34 : decode cX10_bound 34 = .ok (.aload_n 0, 1) := by decide +kernel
theorem dX10_bound_35 : decode cX10_bound 35 = .ok (.getfield 41, 3) := by decide +kernel
theorem dX10_bound_38 : decode cX10_bound 38 = .ok (.iload 4, 2) := by decide +kernel
theorem dX10_bound_40 : decode cX10_bound 40 = .ok (.laload, 1) := by decide +kernel
theorem dX10_bound_41 : decode cX10_bound 41 = .ok (.lload_n 2, 1) := by decide +kernel
theorem dX10_bound_42 : decode cX10_bound 42 = .ok (.lcmp, 1) := by decide +kernel
theorem dX10_bound_43 : decode cX10_bound 43 = .ok (.ifCond .le 28, 3) := by decide +kernel
theorem dX10_bound_46 : decode cX10_bound 46 = .ok (.goto 15, 3) := by decide +kernel
theorem dX10_bound_49 : decode cX10_bound 49 = .ok (.aload_n 0, 1) := by decide +kernel
theorem dX10_bound_50 : decode cX10_bound 50 = .ok (.getfield 41, 3) := by decide +kernel
theorem dX10_bound_53 : decode cX10_bound 53 = .ok (.iload 4, 2) := by decide +kernel
theorem dX10_bound_55 : decode cX10_bound 55 = .ok (.laload, 1) := by decide +kernel
theorem dX10_bound_56 : decode cX10_bound 56 = .ok (.lload_n 2, 1) := by decide +kernel
theorem dX10_bound_57 : decode cX10_bound 57 = .ok (.lcmp, 1) := by decide +kernel
theorem dX10_bound_58 : decode cX10_bound 58 = .ok (.ifCond .ge 13, 3) := by decide +kernel
theorem dX10_bound_61 : decode cX10_bound 61 = .ok (.aload_n 0, 1) := by decide +kernel
theorem dX10_bound_62 : decode cX10_bound 62 = .ok (.getfield 41, 3) := by decide +kernel
theorem dX10_bound_65 : decode cX10_bound 65 = .ok (.iload 4, 2) := by decide +kernel
theorem dX10_bound_67 : decode cX10_bound 67 = .ok (.laload, 1) := by decide +kernel
theorem dX10_bound_68 : decode cX10_bound 68 = .ok (.goto 4, 3) := by decide +kernel
theorem dX10_bound_71 : decode cX10_bound 71 = .ok (.lload_n 2, 1) := by decide +kernel
theorem dX10_bound_72 : decode cX10_bound 72 = .ok (.lstore_n 2, 1) := by decide +kernel
theorem dX10_bound_73 : decode cX10_bound 73 = .ok (.iinc 4 1, 3) := by decide +kernel
theorem dX10_bound_76 : decode cX10_bound 76 = .ok (.goto (-55), 3) := by decide +kernel
theorem dX10_bound_79 : decode cX10_bound 79 = .ok (.lload_n 2, 1) := by decide +kernel
theorem dX10_bound_80 : decode cX10_bound 80 = .ok (.ldc2_w 157, 3) := by decide +kernel
theorem dX10_bound_83 : decode cX10_bound 83 = .ok (.ldiv, 1) := by decide +kernel
theorem dX10_bound_84 : decode cX10_bound 84 = .ok (.l2i, 1) := by decide +kernel
theorem dX10_bound_85 : decode cX10_bound 85 = .ok (.ireturn, 1) := by decide +kernel
set_option maxRecDepth 20000 in
theorem ggX10_filterNow_X10_shown : GoodIn wsX10_filterNow wsX10_shown := goodIn_r _ [8, 2, 9, 14, 15, 16, 17, 18, 19, 20, 21, 22, 23, 24, 25, 26, 27, 28, 29, 30, 31, 32, 33, 34, 35, 36, 37, 38, 39, 40, 41, 42, 43, 44, 45, 46, 47, 48, 49, 50, 51, 52, 53, 54, 55, 56, 57, 58, 59, 60, 61, 62] (by decide +kernel) (by decide +kernel)
set_option maxRecDepth 20000 in
theorem gX10_filterNow_X10_shown : GoodIn wsX10_filterNow (wsV RX10 274 RX10 yX10_shown wsX10_shown) := goodIn_app (goodIn_of _ (by decide +kernel)) ggX10_filterNow_X10_shown
set_option maxRecDepth 20000 in
theorem ggX10_filterNow_X10_bound : GoodIn wsX10_filterNow wsX10_bound := goodIn_r _ [13, 2, 9, 1, 14, 15, 16, 17, 18, 19, 20, 21, 22, 23, 24, 25, 26, 27, 28, 29, 30, 31, 32, 33, 34, 35, 36, 37, 38, 39, 40, 41, 42, 43, 44, 45, 46, 47, 48, 49, 50, 51, 52, 53, 54, 55, 56, 57, 58, 59, 60, 61, 62] (by decide +kernel) (by decide +kernel)
set_option maxRecDepth 20000 in
theorem gX10_filterNow_X10_bound : GoodIn wsX10_filterNow (wsV RX10 313 RX10 yX10_bound wsX10_bound) := goodIn_app (goodIn_of _ (by decide +kernel)) ggX10_filterNow_X10_bound
theorem dX10_filterNow_0 : decode cX10_filterNow 0 = .ok (.iload_n 1, 1) := by decide +kernel
theorem dX10_filterNow_1 : decode cX10_filterNow 1 = .ok (.tableswitch 73 0 3 #[31, 41, 51, 56], 31) := by decide +kernel
theorem dX10_filterNow_32 : decode cX10_filterNow 32 = .ok (.aload_n 0, 1) := by decide +kernel
theorem dX10_filterNow_33 : decode cX10_filterNow 33 = .ok (.invokevirtual 274, 3) := by decide +kernel
theorem dX10_filterNow_36 : decode cX10_filterNow 36 = .ok (.ldc2_w 157, 3) := by decide +kernel
theorem dX10_filterNow_39 : decode cX10_filterNow 39 = .ok (.ldiv, 1) := by decide +kernel
theorem dX10_filterNow_40 : decode cX10_filterNow 40 = .ok (.l2i, 1) := by decide +kernel
theorem dX10_filterNow_41 : decode cX10_filterNow 41 = .ok (.ireturn, 1) := by decide +kernel
theorem dX10_filterNow_42 : decode cX10_filterNow 42 = .ok (.aload_n 0, 1) := by decide +kernel
theorem dX10_filterNow_43 : decode cX10_filterNow 43 = .ok (.invokevirtual 274, 3) := by decide +kernel
theorem dX10_filterNow_46 : decode cX10_filterNow 46 = .ok (.ldc2_w 157, 3) := by decide +kernel
theorem dX10_filterNow_49 : decode cX10_filterNow 49 = .ok (.lrem, 1) := by decide +kernel
theorem dX10_filterNow_50 : decode cX10_filterNow 50 = .ok (.l2i, 1) := by decide +kernel
theorem dX10_filterNow_51 : decode cX10_filterNow 51 = .ok (.ireturn, 1) := by decide +kernel
theorem dX10_filterNow_52 : decode cX10_filterNow 52 = .ok (.aload_n 0, 1) := by decide +kernel
theorem dX10_filterNow_53 : decode cX10_filterNow 53 = .ok (.getfield 271, 3) := by decide +kernel
theorem dX10_filterNow_56 : decode cX10_filterNow 56 = .ok (.ireturn, 1) := by decide +kernel
theorem dX10_filterNow_57 : decode cX10_filterNow 57 = .ok (.aload_n 0, 1) := by decide +kernel
theorem dX10_filterNow_58 : decode cX10_filterNow 58 = .ok (.getfield 271, 3) := by decide +kernel
theorem dX10_filterNow_61 : decode cX10_filterNow 61 = .ok (.aload_n 0, 1) := by decide +kernel
theorem dX10_filterNow_62 : decode cX10_filterNow 62 = .ok (.getfield 24, 3) := by decide +kernel
theorem dX10_filterNow_65 : decode cX10_filterNow 65 = .ok (.if_icmp .ne 7, 3) := by decide +kernel
theorem dX10_filterNow_68 : decode cX10_filterNow 68 = .ok (.iconst 1, 1) := by decide +kernel
theorem dX10_filterNow_69 : decode cX10_filterNow 69 = .ok (.goto 4, 3) := by decide +kernel
theorem dX10_filterNow_72 : decode cX10_filterNow 72 = .ok (.iconst 0, 1) := by decide +kernel
theorem dX10_filterNow_73 : decode cX10_filterNow 73 = .ok (.ireturn, 1) := by decide +kernel
theorem dX10_filterNow_74 : decode cX10_filterNow 74 = .ok (.aload_n 0, 1) := by decide +kernel
theorem dX10_filterNow_75 : decode cX10_filterNow 75 = .ok (.iload_n 1, 1) := by decide +kernel
theorem dX10_filterNow_76 : decode cX10_filterNow 76 = .ok (.iconst 5, 1) := by decide +kernel
theorem dX10_filterNow_77 : decode cX10_filterNow 77 = .ok (.if_icmp .ne 7, 3) := by decide +kernel
theorem dX10_filterNow_80 : decode cX10_filterNow 80 = .ok (.iconst 1, 1) := by decide +kernel
theorem dX10_filterNow_81 : decode cX10_filterNow 81 = .ok (.goto 4, 3) := by decide +kernel
theorem dX10_filterNow_84 : decode cX10_filterNow 84 = .ok (.iconst 0, 1) := by decide +kernel
theorem dX10_filterNow_85 : decode cX10_filterNow 85 = .ok (.invokevirtual 313, 3) := by decide +kernel
theorem dX10_filterNow_88 : decode cX10_filterNow 88 = .ok (.ireturn, 1) := by decide +kernel
set_option maxRecDepth 20000 in
theorem ggX10_filter_X10_within : GoodIn wsX10_filter wsX10_within := goodIn_r _ [5] (by decide +kernel) (by decide +kernel)
set_option maxRecDepth 20000 in
theorem gX10_filter_X10_within : GoodIn wsX10_filter (va_wsS RX10 50 yX10_within wsX10_within) := goodIn_app (goodIn_of _ (by decide +kernel)) ggX10_filter_X10_within
set_option maxRecDepth 20000 in
theorem ggX10_filter_X10_filterNow : GoodIn wsX10_filter wsX10_filterNow := goodIn_r _ [9, 10, 11, 12, 13, 14, 15, 4, 16, 17, 18, 19, 20, 21, 22, 23, 24, 25, 26, 27, 28, 29, 30, 31, 32, 33, 34, 35, 36, 37, 38, 39, 40, 41, 42, 43, 44, 45, 46, 47, 48, 49, 50, 51, 52, 53, 54, 55, 56, 57, 58, 59, 60, 61, 62, 63, 64, 65, 66, 67, 68, 69, 70] (by decide +kernel) (by decide +kernel)
set_option maxRecDepth 20000 in
theorem gX10_filter_X10_filterNow : GoodIn wsX10_filter (wsV RX10 316 RX10 yX10_filterNow wsX10_filterNow) := goodIn_app (goodIn_of _ (by decide +kernel)) ggX10_filter_X10_filterNow
theorem dX10_filter_0 : decode cX10_filter 0 = .ok (.iload_n 1, 1) := by decide +kernel
theorem dX10_filter_1 : decode cX10_filter 1 = .ok (.iconst 0, 1) := by decide +kernel
theorem dX10_filter_2 : decode cX10_filter 2 = .ok (.iconst 5, 1) := by decide +kernel
theorem dX10_filter_3 : decode cX10_filter 3 = .ok (.invokestatic 50, 3) := by decide +kernel
theorem dX10_filter_6 : decode cX10_filter 6 = .ok (.ifCond .eq 11, 3) := by decide +kernel
theorem dX10_filter_9 : decode cX10_filter 9 = .ok (.aload_n 0, 1) := by decide +kernel
theorem dX10_filter_10 : decode cX10_filter 10 = .ok (.iload_n 1, 1) := by decide +kernel
theorem dX10_filter_11 : decode cX10_filter 11 = .ok (.invokevirtual 316, 3) := by decide +kernel
theorem dX10_filter_14 : decode cX10_filter 14 = .ok (.goto 5, 3) := by decide +kernel
theorem dX10_filter_17 : decode cX10_filter 17 = .ok (.ldc 54, 2) := by decide +kernel
theorem dX10_filter_19 : decode cX10_filter 19 = .ok (.ireturn, 1) := by decide +kernel
theorem dX10_heldNow_0 : decode cX10_heldNow 0 = .ok (.iload_n 2, 1) := by decide +kernel
theorem dX10_heldNow_1 : decode cX10_heldNow 1 = .ok (.ifCond .ne 16, 3) := by decide +kernel
theorem dX10_heldNow_4 : decode cX10_heldNow 4 = .ok (.aload_n 0, 1) := by decide +kernel
theorem dX10_heldNow_5 : decode cX10_heldNow 5 = .ok (.getfield 41, 3) := by decide +kernel
theorem dX10_heldNow_8 : decode cX10_heldNow 8 = .ok (.iload_n 1, 1) := by decide +kernel
theorem dX10_heldNow_9 : decode cX10_heldNow 9 = .ok (.laload, 1) := by decide +kernel
theorem dX10_heldNow_10 : decode cX10_heldNow 10 = .ok (.ldc2_w 157, 3) := by decide +kernel
theorem dX10_heldNow_13 : decode cX10_heldNow 13 = .ok (.ldiv, 1) := by decide +kernel
theorem dX10_heldNow_14 : decode cX10_heldNow 14 = .ok (.goto 13, 3) := by decide +kernel
theorem dX10_heldNow_17 : decode cX10_heldNow 17 = .ok (.aload_n 0, 1) := by decide +kernel
theorem dX10_heldNow_18 : decode cX10_heldNow 18 = .ok (.getfield 41, 3) := by decide +kernel
theorem dX10_heldNow_21 : decode cX10_heldNow 21 = .ok (.iload_n 1, 1) := by decide +kernel
theorem dX10_heldNow_22 : decode cX10_heldNow 22 = .ok (.laload, 1) := by decide +kernel
theorem dX10_heldNow_23 : decode cX10_heldNow 23 = .ok (.ldc2_w 157, 3) := by decide +kernel
theorem dX10_heldNow_26 : decode cX10_heldNow 26 = .ok (.lrem, 1) := by decide +kernel
theorem dX10_heldNow_27 : decode cX10_heldNow 27 = .ok (.l2i, 1) := by decide +kernel
theorem dX10_heldNow_28 : decode cX10_heldNow 28 = .ok (.ireturn, 1) := by decide +kernel
set_option maxRecDepth 20000 in
theorem ggX10_held_X10_within : GoodIn wsX10_held wsX10_within := goodIn_r _ [7] (by decide +kernel) (by decide +kernel)
set_option maxRecDepth 20000 in
theorem gX10_held_X10_within : GoodIn wsX10_held (va_wsS RX10 50 yX10_within wsX10_within) := goodIn_app (goodIn_of _ (by decide +kernel)) ggX10_held_X10_within
set_option maxRecDepth 20000 in
theorem ggX10_held_X10_heldNow : GoodIn wsX10_held wsX10_heldNow := goodIn_r _ [11, 12, 13, 14, 15, 16, 17, 18, 19, 20, 21, 22, 23, 24, 25, 26, 27, 28, 29, 30, 31, 32, 33, 34, 35, 36, 37, 38, 39, 40, 41, 42, 43, 44, 45, 46, 47, 48, 49, 50, 51, 52, 53, 54, 55, 56, 57, 58, 59, 60, 61, 62] (by decide +kernel) (by decide +kernel)
set_option maxRecDepth 20000 in
theorem gX10_held_X10_heldNow : GoodIn wsX10_held (wsV RX10 319 RX10 yX10_heldNow wsX10_heldNow) := goodIn_app (goodIn_of _ (by decide +kernel)) ggX10_held_X10_heldNow
theorem dX10_held_0 : decode cX10_held 0 = .ok (.iload_n 1, 1) := by decide +kernel
theorem dX10_held_1 : decode cX10_held 1 = .ok (.iconst 0, 1) := by decide +kernel
theorem dX10_held_2 : decode cX10_held 2 = .ok (.aload_n 0, 1) := by decide +kernel
theorem dX10_held_3 : decode cX10_held 3 = .ok (.getfield 271, 3) := by decide +kernel
theorem dX10_held_6 : decode cX10_held 6 = .ok (.iconst 1, 1) := by decide +kernel
theorem dX10_held_7 : decode cX10_held 7 = .ok (.isub, 1) := by decide +kernel
theorem dX10_held_8 : decode cX10_held 8 = .ok (.invokestatic 50, 3) := by decide +kernel
theorem dX10_held_11 : decode cX10_held 11 = .ok (.ifCond .ne 7, 3) := by decide +kernel
theorem dX10_held_14 : decode cX10_held 14 = .ok (.ldc_w 312, 3) := by decide +kernel
theorem dX10_held_17 : decode cX10_held 17 = .ok (.ireturn, 1) := by decide +kernel
theorem dX10_held_18 : decode cX10_held 18 = .ok (.iload_n 2, 1) := by decide +kernel
theorem dX10_held_19 : decode cX10_held 19 = .ok (.iconst 0, 1) := by decide +kernel
theorem dX10_held_20 : decode cX10_held 20 = .ok (.iconst 1, 1) := by decide +kernel
theorem dX10_held_21 : decode cX10_held 21 = .ok (.invokestatic 50, 3) := by decide +kernel
theorem dX10_held_24 : decode cX10_held 24 = .ok (.ifCond .eq 12, 3) := by decide +kernel
theorem dX10_held_27 : decode cX10_held 27 = .ok (.aload_n 0, 1) := by decide +kernel
theorem dX10_held_28 : decode cX10_held 28 = .ok (.iload_n 1, 1) := by decide +kernel
theorem dX10_held_29 : decode cX10_held 29 = .ok (.iload_n 2, 1) := by decide +kernel
theorem dX10_held_30 : decode cX10_held 30 = .ok (.invokevirtual 319, 3) := by decide +kernel
theorem dX10_held_33 : decode cX10_held 33 = .ok (.goto 5, 3) := by decide +kernel
theorem dX10_held_36 : decode cX10_held 36 = .ok (.ldc 54, 2) := by decide +kernel
theorem dX10_held_38 : decode cX10_held 38 = .ok (.ireturn, 1) := by decide +kernel
theorem dX10_aboutNow_0 : decode cX10_aboutNow 0 = .ok (.iload_n 1, 1) := by decide +kernel
theorem dX10_aboutNow_1 : decode cX10_aboutNow 1 = .ok (.tableswitch 105 0 8 #[51, 56, 69, 74, 79, 84, 89, 94, 99], 51) := by decide +kernel
theorem dX10_aboutNow_52 : decode cX10_aboutNow 52 = .ok (.aload_n 0, 1) := by decide +kernel
theorem dX10_aboutNow_53 : decode cX10_aboutNow 53 = .ok (.getfield 95, 3) := by decide +kernel
theorem dX10_aboutNow_56 : decode cX10_aboutNow 56 = .ok (.ireturn, 1) := by decide +kernel
theorem dX10_aboutNow_57 : decode cX10_aboutNow 57 = .ok (.aload_n 0, 1) := by decide +kernel
theorem dX10_aboutNow_58 : decode cX10_aboutNow 58 = .ok (.getfield 13, 3) := by decide +kernel
theorem dX10_aboutNow_61 : decode cX10_aboutNow 61 = .ok (.ifCond .eq 7, 3) := by decide +kernel
theorem dX10_aboutNow_64 : decode cX10_aboutNow 64 = .ok (.iconst 1, 1) := by decide +kernel
theorem dX10_aboutNow_65 : decode cX10_aboutNow 65 = .ok (.goto 4, 3) := by decide +kernel
theorem dX10_aboutNow_68 : decode cX10_aboutNow 68 = .ok (.iconst 0, 1) := by decide +kernel
theorem dX10_aboutNow_69 : decode cX10_aboutNow 69 = .ok (.ireturn, 1) := by decide +kernel
theorem dX10_aboutNow_70 : decode cX10_aboutNow 70 = .ok (.aload_n 0, 1) := by decide +kernel
theorem dX10_aboutNow_71 : decode cX10_aboutNow 71 = .ok (.getfield 17, 3) := by decide +kernel
theorem dX10_aboutNow_74 : decode cX10_aboutNow 74 = .ok (.ireturn, 1) := by decide +kernel
theorem dX10_aboutNow_75 : decode cX10_aboutNow 75 = .ok (.aload_n 0, 1) := by decide +kernel
theorem dX10_aboutNow_76 : decode cX10_aboutNow 76 = .ok (.getfield 21, 3) := by decide +kernel
theorem dX10_aboutNow_79 : decode cX10_aboutNow 79 = .ok (.ireturn, 1) := by decide +kernel
theorem dX10_aboutNow_80 : decode cX10_aboutNow 80 = .ok (.aload_n 0, 1) := by decide +kernel
theorem dX10_aboutNow_81 : decode cX10_aboutNow 81 = .ok (.getfield 24, 3) := by decide +kernel
theorem dX10_aboutNow_84 : decode cX10_aboutNow 84 = .ok (.ireturn, 1) := by decide +kernel
theorem dX10_aboutNow_85 : decode cX10_aboutNow 85 = .ok (.aload_n 0, 1) := by decide +kernel
theorem dX10_aboutNow_86 : decode cX10_aboutNow 86 = .ok (.getfield 101, 3) := by decide +kernel
theorem dX10_aboutNow_89 : decode cX10_aboutNow 89 = .ok (.ireturn, 1) := by decide +kernel
theorem dX10_aboutNow_90 : decode cX10_aboutNow 90 = .ok (.aload_n 0, 1) := by decide +kernel
theorem dX10_aboutNow_91 : decode cX10_aboutNow 91 = .ok (.getfield 104, 3) := by decide +kernel
theorem dX10_aboutNow_94 : decode cX10_aboutNow 94 = .ok (.ireturn, 1) := by decide +kernel
theorem dX10_aboutNow_95 : decode cX10_aboutNow 95 = .ok (.aload_n 0, 1) := by decide +kernel
theorem dX10_aboutNow_96 : decode cX10_aboutNow 96 = .ok (.getfield 137, 3) := by decide +kernel
theorem dX10_aboutNow_99 : decode cX10_aboutNow 99 = .ok (.ireturn, 1) := by decide +kernel
theorem dX10_aboutNow_100 : decode cX10_aboutNow 100 = .ok (.aload_n 0, 1) := by decide +kernel
theorem dX10_aboutNow_101 : decode cX10_aboutNow 101 = .ok (.getfield 7, 3) := by decide +kernel
theorem dX10_aboutNow_104 : decode cX10_aboutNow 104 = .ok (.l2i, 1) := by decide +kernel
theorem dX10_aboutNow_105 : decode cX10_aboutNow 105 = .ok (.ireturn, 1) := by decide +kernel
theorem dX10_aboutNow_106 : decode cX10_aboutNow 106 = .ok (.aload_n 0, 1) := by decide +kernel
theorem dX10_aboutNow_107 : decode cX10_aboutNow 107 = .ok (.getfield 163, 3) := by decide +kernel
theorem dX10_aboutNow_110 : decode cX10_aboutNow 110 = .ok (.l2i, 1) := by decide +kernel
theorem dX10_aboutNow_111 : decode cX10_aboutNow 111 = .ok (.ireturn, 1) := by decide +kernel
set_option maxRecDepth 20000 in
theorem ggX10_about_X10_within : GoodIn wsX10_about wsX10_within := goodIn_r _ [5] (by decide +kernel) (by decide +kernel)
set_option maxRecDepth 20000 in
theorem gX10_about_X10_within : GoodIn wsX10_about (va_wsS RX10 50 yX10_within wsX10_within) := goodIn_app (goodIn_of _ (by decide +kernel)) ggX10_about_X10_within
set_option maxRecDepth 20000 in
theorem ggX10_about_X10_aboutNow : GoodIn wsX10_about wsX10_aboutNow := goodIn_r _ [9, 10, 11, 12, 13, 14, 15, 16, 17, 18, 19, 20, 21, 22, 23, 24, 25, 26, 27, 28, 29, 30, 31, 32, 33, 34, 35, 36, 37, 38, 39, 40, 41, 42, 43, 44, 45, 46, 47, 48, 49, 50, 51, 52, 53, 54, 55, 56, 57, 58, 59, 60, 61, 62, 63, 64, 65, 66, 67, 68] (by decide +kernel) (by decide +kernel)
set_option maxRecDepth 20000 in
theorem gX10_about_X10_aboutNow : GoodIn wsX10_about (wsV RX10 323 RX10 yX10_aboutNow wsX10_aboutNow) := goodIn_app (goodIn_of _ (by decide +kernel)) ggX10_about_X10_aboutNow
theorem dX10_about_0 : decode cX10_about 0 = .ok (.iload_n 1, 1) := by decide +kernel
theorem dX10_about_1 : decode cX10_about 1 = .ok (.iconst 0, 1) := by decide +kernel
theorem dX10_about_2 : decode cX10_about 2 = .ok (.bipush 9, 2) := by decide +kernel
theorem dX10_about_4 : decode cX10_about 4 = .ok (.invokestatic 50, 3) := by decide +kernel
theorem dX10_about_7 : decode cX10_about 7 = .ok (.ifCond .eq 11, 3) := by decide +kernel
theorem dX10_about_10 : decode cX10_about 10 = .ok (.aload_n 0, 1) := by decide +kernel
theorem dX10_about_11 : decode cX10_about 11 = .ok (.iload_n 1, 1) := by decide +kernel
theorem dX10_about_12 : decode cX10_about 12 = .ok (.invokevirtual 323, 3) := by decide +kernel
theorem dX10_about_15 : decode cX10_about 15 = .ok (.goto 5, 3) := by decide +kernel
theorem dX10_about_18 : decode cX10_about 18 = .ok (.ldc 54, 2) := by decide +kernel
theorem dX10_about_20 : decode cX10_about 20 = .ok (.ireturn, 1) := by decide +kernel
theorem dX10_zeroNow_0 : decode cX10_zeroNow 0 = .ok (.iload_n 2, 1) := by decide +kernel
theorem dX10_zeroNow_1 : decode cX10_zeroNow 1 = .ok (.tableswitch 58 0 2 #[27, 39, 51], 27) := by decide +kernel
theorem dX10_zeroNow_28 : decode cX10_zeroNow 28 = .ok (.aload_n 0, 1) := by decide +kernel
theorem dX10_zeroNow_29 : decode cX10_zeroNow 29 = .ok (.getfield 31, 3) := by decide +kernel
theorem dX10_zeroNow_32 : decode cX10_zeroNow 32 = .ok (.iload_n 1, 1) := by decide +kernel
theorem dX10_zeroNow_33 : decode cX10_zeroNow 33 = .ok (.laload, 1) := by decide +kernel
theorem dX10_zeroNow_34 : decode cX10_zeroNow 34 = .ok (.ldc2_w 157, 3) := by decide +kernel
theorem dX10_zeroNow_37 : decode cX10_zeroNow 37 = .ok (.ldiv, 1) := by decide +kernel
theorem dX10_zeroNow_38 : decode cX10_zeroNow 38 = .ok (.l2i, 1) := by decide +kernel
theorem dX10_zeroNow_39 : decode cX10_zeroNow 39 = .ok (.ireturn, 1) := by decide +kernel
theorem dX10_zeroNow_40 : decode cX10_zeroNow 40 = .ok (.aload_n 0, 1) := by decide +kernel
theorem dX10_zeroNow_41 : decode cX10_zeroNow 41 = .ok (.getfield 31, 3) := by decide +kernel
theorem dX10_zeroNow_44 : decode cX10_zeroNow 44 = .ok (.iload_n 1, 1) := by decide +kernel
theorem dX10_zeroNow_45 : decode cX10_zeroNow 45 = .ok (.laload, 1) := by decide +kernel
theorem dX10_zeroNow_46 : decode cX10_zeroNow 46 = .ok (.ldc2_w 157, 3) := by decide +kernel
theorem dX10_zeroNow_49 : decode cX10_zeroNow 49 = .ok (.lrem, 1) := by decide +kernel
theorem dX10_zeroNow_50 : decode cX10_zeroNow 50 = .ok (.l2i, 1) := by decide +kernel
theorem dX10_zeroNow_51 : decode cX10_zeroNow 51 = .ok (.ireturn, 1) := by decide +kernel
theorem dX10_zeroNow_52 : decode cX10_zeroNow 52 = .ok (.aload_n 0, 1) := by decide +kernel
theorem dX10_zeroNow_53 : decode cX10_zeroNow 53 = .ok (.getfield 35, 3) := by decide +kernel
theorem dX10_zeroNow_56 : decode cX10_zeroNow 56 = .ok (.iload_n 1, 1) := by decide +kernel
theorem dX10_zeroNow_57 : decode cX10_zeroNow 57 = .ok (.iaload, 1) := by decide +kernel
theorem dX10_zeroNow_58 : decode cX10_zeroNow 58 = .ok (.ireturn, 1) := by decide +kernel
theorem dX10_zeroNow_59 : decode cX10_zeroNow 59 = .ok (.aload_n 0, 1) := by decide +kernel
theorem dX10_zeroNow_60 : decode cX10_zeroNow 60 = .ok (.getfield 38, 3) := by decide +kernel
theorem dX10_zeroNow_63 : decode cX10_zeroNow 63 = .ok (.iload_n 1, 1) := by decide +kernel
theorem dX10_zeroNow_64 : decode cX10_zeroNow 64 = .ok (.iaload, 1) := by decide +kernel
theorem dX10_zeroNow_65 : decode cX10_zeroNow 65 = .ok (.ireturn, 1) := by decide +kernel
set_option maxRecDepth 20000 in
theorem ggX10_zero_X10_within : GoodIn wsX10_zero wsX10_within := goodIn_r _ [7] (by decide +kernel) (by decide +kernel)
set_option maxRecDepth 20000 in
theorem gX10_zero_X10_within : GoodIn wsX10_zero (va_wsS RX10 50 yX10_within wsX10_within) := goodIn_app (goodIn_of _ (by decide +kernel)) ggX10_zero_X10_within
set_option maxRecDepth 20000 in
theorem ggX10_zero_X10_zeroNow : GoodIn wsX10_zero wsX10_zeroNow := goodIn_r _ [11, 12, 13, 2, 14, 15, 16, 17, 18, 19, 20, 21, 22, 23, 24, 25, 26, 27, 28, 29, 30, 31, 32, 33, 34, 35, 36, 37, 38, 39, 40, 41, 42, 43, 44, 45, 46, 47, 48, 49, 50, 51, 52, 53, 54, 55, 56, 57, 58, 59, 60, 61, 62, 63] (by decide +kernel) (by decide +kernel)
set_option maxRecDepth 20000 in
theorem gX10_zero_X10_zeroNow : GoodIn wsX10_zero (wsV RX10 326 RX10 yX10_zeroNow wsX10_zeroNow) := goodIn_app (goodIn_of _ (by decide +kernel)) ggX10_zero_X10_zeroNow
theorem dX10_zero_0 : decode cX10_zero 0 = .ok (.iload_n 1, 1) := by decide +kernel
theorem dX10_zero_1 : decode cX10_zero 1 = .ok (.iconst 0, 1) := by decide +kernel
theorem dX10_zero_2 : decode cX10_zero 2 = .ok (.iconst 2, 1) := by decide +kernel
theorem dX10_zero_3 : decode cX10_zero 3 = .ok (.invokestatic 50, 3) := by decide +kernel
theorem dX10_zero_6 : decode cX10_zero 6 = .ok (.ifCond .eq 12, 3) := by decide +kernel
theorem dX10_zero_9 : decode cX10_zero 9 = .ok (.iload_n 2, 1) := by decide +kernel
theorem dX10_zero_10 : decode cX10_zero 10 = .ok (.iconst 0, 1) := by decide +kernel
theorem dX10_zero_11 : decode cX10_zero 11 = .ok (.iconst 3, 1) := by decide +kernel
theorem dX10_zero_12 : decode cX10_zero 12 = .ok (.invokestatic 50, 3) := by decide +kernel
theorem dX10_zero_15 : decode cX10_zero 15 = .ok (.ifCond .ne 6, 3) := by decide +kernel
theorem dX10_zero_18 : decode cX10_zero 18 = .ok (.ldc 54, 2) := by decide +kernel
theorem dX10_zero_20 : decode cX10_zero 20 = .ok (.ireturn, 1) := by decide +kernel
theorem dX10_zero_21 : decode cX10_zero 21 = .ok (.aload_n 0, 1) := by decide +kernel
theorem dX10_zero_22 : decode cX10_zero 22 = .ok (.getfield 35, 3) := by decide +kernel
theorem dX10_zero_25 : decode cX10_zero 25 = .ok (.iload_n 1, 1) := by decide +kernel
theorem dX10_zero_26 : decode cX10_zero 26 = .ok (.iaload, 1) := by decide +kernel
theorem dX10_zero_27 : decode cX10_zero 27 = .ok (.ifCond .le 12, 3) := by decide +kernel
theorem dX10_zero_30 : decode cX10_zero 30 = .ok (.aload_n 0, 1) := by decide +kernel
theorem dX10_zero_31 : decode cX10_zero 31 = .ok (.iload_n 1, 1) := by decide +kernel
theorem dX10_zero_32 : decode cX10_zero 32 = .ok (.iload_n 2, 1) := by decide +kernel
theorem dX10_zero_33 : decode cX10_zero 33 = .ok (.invokevirtual 326, 3) := by decide +kernel
theorem dX10_zero_36 : decode cX10_zero 36 = .ok (.goto 5, 3) := by decide +kernel
theorem dX10_zero_39 : decode cX10_zero 39 = .ok (.ldc 120, 2) := by decide +kernel
theorem dX10_zero_41 : decode cX10_zero 41 = .ok (.ireturn, 1) := by decide +kernel
theorem dX10_howMany_0 : decode cX10_howMany 0 = .ok (.iload_n 1, 1) := by decide +kernel
theorem dX10_howMany_1 : decode cX10_howMany 1 = .ok (.tableswitch 96 0 8 #[51, 56, 61, 66, 71, 76, 81, 86, 91], 51) := by decide +kernel
theorem dX10_howMany_52 : decode cX10_howMany 52 = .ok (.aload_n 0, 1) := by decide +kernel
theorem dX10_howMany_53 : decode cX10_howMany 53 = .ok (.getfield 55, 3) := by decide +kernel
theorem dX10_howMany_56 : decode cX10_howMany 56 = .ok (.ireturn, 1) := by decide +kernel
theorem dX10_howMany_57 : decode cX10_howMany 57 = .ok (.aload_n 0, 1) := by decide +kernel
theorem dX10_howMany_58 : decode cX10_howMany 58 = .ok (.getfield 121, 3) := by decide +kernel
theorem dX10_howMany_61 : decode cX10_howMany 61 = .ok (.ireturn, 1) := by decide +kernel
theorem dX10_howMany_62 : decode cX10_howMany 62 = .ok (.aload_n 0, 1) := by decide +kernel
theorem dX10_howMany_63 : decode cX10_howMany 63 = .ok (.getfield 303, 3) := by decide +kernel
theorem dX10_howMany_66 : decode cX10_howMany 66 = .ok (.ireturn, 1) := by decide +kernel
theorem dX10_howMany_67 : decode cX10_howMany 67 = .ok (.aload_n 0, 1) := by decide +kernel
theorem dX10_howMany_68 : decode cX10_howMany 68 = .ok (.getfield 244, 3) := by decide +kernel
theorem dX10_howMany_71 : decode cX10_howMany 71 = .ok (.ireturn, 1) := by decide +kernel
theorem dX10_howMany_72 : decode cX10_howMany 72 = .ok (.aload_n 0, 1) := by decide +kernel
theorem dX10_howMany_73 : decode cX10_howMany 73 = .ok (.getfield 247, 3) := by decide +kernel
theorem dX10_howMany_76 : decode cX10_howMany 76 = .ok (.ireturn, 1) := by decide +kernel
theorem dX10_howMany_77 : decode cX10_howMany 77 = .ok (.aload_n 0, 1) := by decide +kernel
theorem dX10_howMany_78 : decode cX10_howMany 78 = .ok (.getfield 268, 3) := by decide +kernel
theorem dX10_howMany_81 : decode cX10_howMany 81 = .ok (.ireturn, 1) := by decide +kernel
theorem dX10_howMany_82 : decode cX10_howMany 82 = .ok (.aload_n 0, 1) := by decide +kernel
theorem dX10_howMany_83 : decode cX10_howMany 83 = .ok (.getfield 265, 3) := by decide +kernel
theorem dX10_howMany_86 : decode cX10_howMany 86 = .ok (.ireturn, 1) := by decide +kernel
theorem dX10_howMany_87 : decode cX10_howMany 87 = .ok (.aload_n 0, 1) := by decide +kernel
theorem dX10_howMany_88 : decode cX10_howMany 88 = .ok (.getfield 277, 3) := by decide +kernel
theorem dX10_howMany_91 : decode cX10_howMany 91 = .ok (.ireturn, 1) := by decide +kernel
theorem dX10_howMany_92 : decode cX10_howMany 92 = .ok (.aload_n 0, 1) := by decide +kernel
theorem dX10_howMany_93 : decode cX10_howMany 93 = .ok (.getfield 124, 3) := by decide +kernel
theorem dX10_howMany_96 : decode cX10_howMany 96 = .ok (.ireturn, 1) := by decide +kernel
theorem dX10_howMany_97 : decode cX10_howMany 97 = .ok (.ldc 54, 2) := by decide +kernel
theorem dX10_howMany_99 : decode cX10_howMany 99 = .ok (.ireturn, 1) := by decide +kernel
set_option maxRecDepth 20000 in
theorem ggX10_count_X10_howMany : GoodIn wsX10_count wsX10_howMany := goodIn_r _ [5, 6, 7, 8, 9, 10, 11, 12, 13, 14, 15, 16, 17, 18, 19, 20, 21, 22, 23, 24, 25, 26, 27, 28, 29, 30, 31, 32, 33, 34, 35, 36, 37, 38, 39, 40, 41, 42, 43, 44, 45, 46, 47, 48, 49, 50, 51, 52, 53, 54, 55, 56, 57, 58, 59, 60, 61, 62, 63, 64] (by decide +kernel) (by decide +kernel)
set_option maxRecDepth 20000 in
theorem gX10_count_X10_howMany : GoodIn wsX10_count (wsV RX10 329 RX10 yX10_howMany wsX10_howMany) := goodIn_app (goodIn_of _ (by decide +kernel)) ggX10_count_X10_howMany
theorem dX10_count_0 : decode cX10_count 0 = .ok (.aload_n 0, 1) := by decide +kernel
theorem dX10_count_1 : decode cX10_count 1 = .ok (.iload_n 1, 1) := by decide +kernel
theorem dX10_count_2 : decode cX10_count 2 = .ok (.invokevirtual 329, 3) := by decide +kernel
theorem dX10_count_5 : decode cX10_count 5 = .ok (.ireturn, 1) := by decide +kernel
theorem dX10_mix_0 : decode cX10_mix 0 = .ok (.aload_n 0, 1) := by decide +kernel
theorem dX10_mix_1 : decode cX10_mix 1 = .ok (.ldc2_w 332, 3) := by decide +kernel
theorem dX10_mix_4 : decode cX10_mix 4 = .ok (.aload_n 0, 1) := by decide +kernel
theorem dX10_mix_5 : decode cX10_mix 5 = .ok (.getfield 334, 3) := by decide +kernel
theorem dX10_mix_8 : decode cX10_mix 8 = .ok (.lmul, 1) := by decide +kernel
theorem dX10_mix_9 : decode cX10_mix 9 = .ok (.lload_n 1, 1) := by decide +kernel
theorem dX10_mix_10 : decode cX10_mix 10 = .ok (.ladd, 1) := by decide +kernel
theorem dX10_mix_11 : decode cX10_mix 11 = .ok (.putfield 334, 3) := by decide +kernel
theorem dX10_mix_14 : decode cX10_mix 14 = .ok (.return_, 1) := by decide +kernel
set_option maxRecDepth 20000 in
theorem ggX10_mixReadings_X10_mix : GoodIn wsX10_mixReadings wsX10_mix := goodIn_r _ [9, 10, 11, 37, 38, 39, 40, 41, 42, 43, 44, 45, 46, 47, 48, 49, 50, 51, 52, 53, 54, 55, 56, 57, 58, 59, 60, 61, 62, 63, 64, 65, 66, 67, 68, 69, 70, 71, 72, 73, 74, 75, 76, 77, 78, 79, 80, 81, 82, 83, 84, 85] (by decide +kernel) (by decide +kernel)
set_option maxRecDepth 20000 in
theorem gX10_mixReadings_X10_mix : GoodIn wsX10_mixReadings (wsV RX10 337 RX10 yX10_mix wsX10_mix) := goodIn_app (goodIn_of _ (by decide +kernel)) ggX10_mixReadings_X10_mix
set_option maxRecDepth 20000 in
theorem ggX10_mixReadings_X10_filterNow : GoodIn wsX10_mixReadings wsX10_filterNow := goodIn_r _ [15, 16, 3, 17, 18, 19, 20, 8, 21, 22, 23, 24, 25, 26, 37, 38, 39, 40, 41, 42, 43, 44, 45, 46, 47, 48, 49, 50, 51, 52, 53, 54, 55, 56, 57, 58, 59, 60, 61, 62, 63, 64, 65, 66, 67, 68, 69, 70, 71, 72, 73, 74, 75, 76, 77, 78, 79, 80, 81, 82, 83, 84, 85] (by decide +kernel) (by decide +kernel)
set_option maxRecDepth 20000 in
theorem gX10_mixReadings_X10_filterNow : GoodIn wsX10_mixReadings (wsV RX10 316 RX10 yX10_filterNow wsX10_filterNow) := goodIn_app (goodIn_of _ (by decide +kernel)) ggX10_mixReadings_X10_filterNow
set_option maxRecDepth 20000 in
theorem ggX10_mixReadings_X10_heldNow : GoodIn wsX10_mixReadings wsX10_heldNow := goodIn_r _ [30, 22, 16, 37, 38, 39, 40, 41, 42, 43, 44, 45, 46, 47, 48, 49, 50, 51, 52, 53, 54, 55, 56, 57, 58, 59, 60, 61, 62, 63, 64, 65, 66, 67, 68, 69, 70, 71, 72, 73, 74, 75, 76, 77, 78, 79, 80, 81, 82, 83, 84, 85] (by decide +kernel) (by decide +kernel)
set_option maxRecDepth 20000 in
theorem gX10_mixReadings_X10_heldNow : GoodIn wsX10_mixReadings (wsV RX10 319 RX10 yX10_heldNow wsX10_heldNow) := goodIn_app (goodIn_of _ (by decide +kernel)) ggX10_mixReadings_X10_heldNow
set_option maxRecDepth 20000 in
theorem ggX10_mixReadings_X10_zeroNow : GoodIn wsX10_mixReadings wsX10_zeroNow := goodIn_r _ [34, 35, 16, 4, 36, 37, 38, 39, 40, 41, 42, 43, 44, 45, 46, 47, 48, 49, 50, 51, 52, 53, 54, 55, 56, 57, 58, 59, 60, 61, 62, 63, 64, 65, 66, 67, 68, 69, 70, 71, 72, 73, 74, 75, 76, 77, 78, 79, 80, 81, 82, 83, 84, 85] (by decide +kernel) (by decide +kernel)
set_option maxRecDepth 20000 in
theorem gX10_mixReadings_X10_zeroNow : GoodIn wsX10_mixReadings (wsV RX10 326 RX10 yX10_zeroNow wsX10_zeroNow) := goodIn_app (goodIn_of _ (by decide +kernel)) ggX10_mixReadings_X10_zeroNow
theorem dX10_mixReadings_0 : decode cX10_mixReadings 0 = .ok (.iconst 0, 1) := by decide +kernel
theorem dX10_mixReadings_1 : decode cX10_mixReadings 1 = .ok (.istore_n 1, 1) := by decide +kernel
theorem dX10_mixReadings_2 : decode cX10_mixReadings 2 = .ok (.iload_n 1, 1) := by decide +kernel
theorem dX10_mixReadings_3 : decode cX10_mixReadings 3 = .ok (.bipush 8, 2) := by decide +kernel
theorem dX10_mixReadings_5 : decode cX10_mixReadings 5 = .ok (.aload_n 0, 1) := by decide +kernel
theorem dX10_mixReadings_6 : decode cX10_mixReadings 6 = .ok (.getfield 280, 3) := by decide +kernel
theorem dX10_mixReadings_9 : decode cX10_mixReadings 9 = .ok (.imul, 1) := by decide +kernel
theorem dX10_mixReadings_10 : decode cX10_mixReadings 10 = .ok (.if_icmp .ge 20, 3) := by decide +kernel
theorem dX10_mixReadings_13 : decode cX10_mixReadings 13 = .ok (.aload_n 0, 1) := by decide +kernel
theorem dX10_mixReadings_14 : decode cX10_mixReadings 14 = .ok (.aload_n 0, 1) := by decide +kernel
theorem dX10_mixReadings_15 : decode cX10_mixReadings 15 = .ok (.getfield 44, 3) := by decide +kernel
theorem dX10_mixReadings_18 : decode cX10_mixReadings 18 = .ok (.iload_n 1, 1) := by decide +kernel
theorem dX10_mixReadings_19 : decode cX10_mixReadings 19 = .ok (.iaload, 1) := by decide +kernel
theorem dX10_mixReadings_20 : decode cX10_mixReadings 20 = .ok (.i2l, 1) := by decide +kernel
theorem dX10_mixReadings_21 : decode cX10_mixReadings 21 = .ok (.invokevirtual 337, 3) := by decide +kernel
theorem dX10_mixReadings_24 : decode cX10_mixReadings 24 = .ok (.iinc 1 1, 3) := by decide +kernel
theorem dX10_mixReadings_27 : decode cX10_mixReadings 27 = .ok (.goto (-25), 3) := by decide +kernel
theorem dX10_mixReadings_30 : decode cX10_mixReadings 30 = .ok (.iconst 0, 1) := by decide +kernel
theorem dX10_mixReadings_31 : decode cX10_mixReadings 31 = .ok (.istore_n 1, 1) := by decide +kernel
theorem dX10_mixReadings_32 : decode cX10_mixReadings 32 = .ok (.iload_n 1, 1) := by decide +kernel
theorem dX10_mixReadings_33 : decode cX10_mixReadings 33 = .ok (.bipush 6, 2) := by decide +kernel
theorem dX10_mixReadings_35 : decode cX10_mixReadings 35 = .ok (.if_icmp .ge 19, 3) := by decide +kernel
theorem dX10_mixReadings_38 : decode cX10_mixReadings 38 = .ok (.aload_n 0, 1) := by decide +kernel
theorem dX10_mixReadings_39 : decode cX10_mixReadings 39 = .ok (.aload_n 0, 1) := by decide +kernel
theorem dX10_mixReadings_40 : decode cX10_mixReadings 40 = .ok (.iload_n 1, 1) := by decide +kernel
theorem dX10_mixReadings_41 : decode cX10_mixReadings 41 = .ok (.invokevirtual 316, 3) := by decide +kernel
theorem dX10_mixReadings_44 : decode cX10_mixReadings 44 = .ok (.i2l, 1) := by decide +kernel
theorem dX10_mixReadings_45 : decode cX10_mixReadings 45 = .ok (.invokevirtual 337, 3) := by decide +kernel
theorem dX10_mixReadings_48 : decode cX10_mixReadings 48 = .ok (.iinc 1 1, 3) := by decide +kernel
theorem dX10_mixReadings_51 : decode cX10_mixReadings 51 = .ok (.goto (-19), 3) := by decide +kernel
theorem dX10_mixReadings_54 : decode cX10_mixReadings 54 = .ok (.iconst 0, 1) := by decide +kernel
theorem dX10_mixReadings_55 : decode cX10_mixReadings 55 = .ok (.istore_n 1, 1) := by decide +kernel
theorem dX10_mixReadings_56 : decode cX10_mixReadings 56 = .ok (.iload_n 1, 1) := by decide +kernel
theorem dX10_mixReadings_57 : decode cX10_mixReadings 57 = .ok (.iconst 2, 1) := by decide +kernel
theorem dX10_mixReadings_58 : decode cX10_mixReadings 58 = .ok (.aload_n 0, 1) := by decide +kernel
theorem dX10_mixReadings_59 : decode cX10_mixReadings 59 = .ok (.getfield 271, 3) := by decide +kernel
theorem dX10_mixReadings_62 : decode cX10_mixReadings 62 = .ok (.imul, 1) := by decide +kernel
theorem dX10_mixReadings_63 : decode cX10_mixReadings 63 = .ok (.if_icmp .ge 24, 3) := by decide +kernel
theorem dX10_mixReadings_66 : decode cX10_mixReadings 66 = .ok (.aload_n 0, 1) := by decide +kernel
theorem dX10_mixReadings_67 : decode cX10_mixReadings 67 = .ok (.aload_n 0, 1) := by decide +kernel
theorem dX10_mixReadings_68 : decode cX10_mixReadings 68 = .ok (.iload_n 1, 1) := by decide +kernel
theorem dX10_mixReadings_69 : decode cX10_mixReadings 69 = .ok (.iconst 2, 1) := by decide +kernel
theorem dX10_mixReadings_70 : decode cX10_mixReadings 70 = .ok (.idiv, 1) := by decide +kernel
theorem dX10_mixReadings_71 : decode cX10_mixReadings 71 = .ok (.iload_n 1, 1) := by decide +kernel
theorem dX10_mixReadings_72 : decode cX10_mixReadings 72 = .ok (.iconst 2, 1) := by decide +kernel
theorem dX10_mixReadings_73 : decode cX10_mixReadings 73 = .ok (.irem, 1) := by decide +kernel
theorem dX10_mixReadings_74 : decode cX10_mixReadings 74 = .ok (.invokevirtual 319, 3) := by decide +kernel
theorem dX10_mixReadings_77 : decode cX10_mixReadings 77 = .ok (.i2l, 1) := by decide +kernel
theorem dX10_mixReadings_78 : decode cX10_mixReadings 78 = .ok (.invokevirtual 337, 3) := by decide +kernel
theorem dX10_mixReadings_81 : decode cX10_mixReadings 81 = .ok (.iinc 1 1, 3) := by decide +kernel
theorem dX10_mixReadings_84 : decode cX10_mixReadings 84 = .ok (.goto (-28), 3) := by decide +kernel
theorem dX10_mixReadings_87 : decode cX10_mixReadings 87 = .ok (.iconst 0, 1) := by decide +kernel
theorem dX10_mixReadings_88 : decode cX10_mixReadings 88 = .ok (.istore_n 1, 1) := by decide +kernel
theorem dX10_mixReadings_89 : decode cX10_mixReadings 89 = .ok (.iload_n 1, 1) := by decide +kernel
theorem dX10_mixReadings_90 : decode cX10_mixReadings 90 = .ok (.iconst 3, 1) := by decide +kernel
theorem dX10_mixReadings_91 : decode cX10_mixReadings 91 = .ok (.if_icmp .ge 42, 3) := by decide +kernel
theorem dX10_mixReadings_94 : decode cX10_mixReadings 94 = .ok (.iconst 0, 1) := by decide +kernel
theorem dX10_mixReadings_95 : decode cX10_mixReadings 95 = .ok (.istore_n 2, 1) := by decide +kernel
theorem dX10_mixReadings_96 : decode cX10_mixReadings 96 = .ok (.iload_n 2, 1) := by decide +kernel
theorem dX10_mixReadings_97 : decode cX10_mixReadings 97 = .ok (.iconst 4, 1) := by decide +kernel
theorem dX10_mixReadings_98 : decode cX10_mixReadings 98 = .ok (.if_icmp .ge 29, 3) := by decide +kernel
theorem dX10_mixReadings_101 : decode cX10_mixReadings 101 = .ok (.aload_n 0, 1) := by decide +kernel
theorem dX10_mixReadings_102 : decode cX10_mixReadings 102 = .ok (.getfield 35, 3) := by decide +kernel
theorem dX10_mixReadings_105 : decode cX10_mixReadings 105 = .ok (.iload_n 1, 1) := by decide +kernel
theorem dX10_mixReadings_106 : decode cX10_mixReadings 106 = .ok (.iaload, 1) := by decide +kernel
theorem dX10_mixReadings_107 : decode cX10_mixReadings 107 = .ok (.ifCond .le 20, 3) := by decide +kernel
theorem dX10_mixReadings_110 : decode cX10_mixReadings 110 = .ok (.aload_n 0, 1) := by decide +kernel
theorem dX10_mixReadings_111 : decode cX10_mixReadings 111 = .ok (.aload_n 0, 1) := by decide +kernel
theorem dX10_mixReadings_112 : decode cX10_mixReadings 112 = .ok (.iload_n 1, 1) := by decide +kernel
theorem dX10_mixReadings_113 : decode cX10_mixReadings 113 = .ok (.iload_n 2, 1) := by decide +kernel
theorem dX10_mixReadings_114 : decode cX10_mixReadings 114 = .ok (.invokevirtual 326, 3) := by decide +kernel
theorem dX10_mixReadings_117 : decode cX10_mixReadings 117 = .ok (.i2l, 1) := by decide +kernel
theorem dX10_mixReadings_118 : decode cX10_mixReadings 118 = .ok (.invokevirtual 337, 3) := by decide +kernel
theorem dX10_mixReadings_121 : decode cX10_mixReadings 121 = .ok (.iinc 2 1, 3) := by decide +kernel
theorem dX10_mixReadings_124 : decode cX10_mixReadings 124 = .ok (.goto (-28), 3) := by decide +kernel
theorem dX10_mixReadings_127 : decode cX10_mixReadings 127 = .ok (.iinc 1 1, 3) := by decide +kernel
theorem dX10_mixReadings_130 : decode cX10_mixReadings 130 = .ok (.goto (-41), 3) := by decide +kernel
theorem dX10_mixReadings_133 : decode cX10_mixReadings 133 = .ok (.return_, 1) := by decide +kernel
set_option maxRecDepth 20000 in
theorem ggX10_digest_X10_aboutNow : GoodIn wsX10_digest wsX10_aboutNow := goodIn_r _ [10, 11, 12, 13, 14, 15, 16, 17, 18, 19, 20, 99, 100, 101, 102, 103, 104, 105, 106, 107, 108, 109, 110, 111, 112, 113, 114, 115, 116, 117, 118, 119, 120, 121, 122, 123, 124, 125, 126, 127, 128, 129, 130, 131, 132, 133, 134, 135, 136, 137, 138, 139, 140, 141, 142, 143, 144, 145, 146, 147] (by decide +kernel) (by decide +kernel)
set_option maxRecDepth 20000 in
theorem gX10_digest_X10_aboutNow : GoodIn wsX10_digest (wsV RX10 323 RX10 yX10_aboutNow wsX10_aboutNow) := goodIn_app (goodIn_of _ (by decide +kernel)) ggX10_digest_X10_aboutNow
set_option maxRecDepth 20000 in
theorem ggX10_digest_X10_mix : GoodIn wsX10_digest wsX10_mix := goodIn_r _ [24, 25, 2, 99, 100, 101, 102, 103, 104, 105, 106, 107, 108, 109, 110, 111, 112, 113, 114, 115, 116, 117, 118, 119, 120, 121, 122, 123, 124, 125, 126, 127, 128, 129, 130, 131, 132, 133, 134, 135, 136, 137, 138, 139, 140, 141, 142, 143, 144, 145, 146, 147] (by decide +kernel) (by decide +kernel)
set_option maxRecDepth 20000 in
theorem gX10_digest_X10_mix : GoodIn wsX10_digest (wsV RX10 337 RX10 yX10_mix wsX10_mix) := goodIn_app (goodIn_of _ (by decide +kernel)) ggX10_digest_X10_mix
set_option maxRecDepth 20000 in
theorem ggX10_digest_X10_latestNow : GoodIn wsX10_digest wsX10_latestNow := goodIn_r _ [29, 30, 31, 32, 33, 34, 35, 36, 37, 38, 39, 40, 99, 100, 101, 102, 103, 104, 105, 106, 107, 108, 109, 110, 111, 112, 113, 114, 115, 116, 117, 118, 119, 120, 121, 122, 123, 124, 125, 126, 127, 128, 129, 130, 131, 132, 133, 134, 135, 136, 137, 138, 139, 140, 141, 142, 143, 144, 145, 146, 147] (by decide +kernel) (by decide +kernel)
set_option maxRecDepth 20000 in
theorem gX10_digest_X10_latestNow : GoodIn wsX10_digest (wsV RX10 309 RX10 yX10_latestNow wsX10_latestNow) := goodIn_app (goodIn_of _ (by decide +kernel)) ggX10_digest_X10_latestNow
set_option maxRecDepth 20000 in
theorem ggX10_digest_X10_mixReadings : GoodIn wsX10_digest wsX10_mixReadings := goodIn_r _ [44, 45, 46, 47, 48, 21, 22, 23, 9, 24, 25, 2, 49, 50, 51, 52, 53, 15, 54, 55, 56, 57, 58, 59, 60, 61, 62, 63, 64, 65, 66, 67, 68, 69, 70, 71, 72, 99, 100, 101, 102, 103, 104, 105, 106, 107, 108, 109, 110, 111, 112, 113, 114, 115, 116, 117, 118, 119, 120, 121, 122, 123, 124, 125, 126, 127, 128, 129, 130, 131, 132, 133, 134, 135, 136, 137, 138, 139, 140, 141, 142, 143, 144, 145, 146, 147] (by decide +kernel) (by decide +kernel)
set_option maxRecDepth 20000 in
theorem gX10_digest_X10_mixReadings : GoodIn wsX10_digest (wsV RX10 343 RX10 yX10_mixReadings wsX10_mixReadings) := goodIn_app (goodIn_of _ (by decide +kernel)) ggX10_digest_X10_mixReadings
set_option maxRecDepth 20000 in
theorem ggX10_digest_X10_withHum : GoodIn wsX10_digest wsX10_withHum := goodIn_r _ [76, 17, 77, 53, 78, 79, 80, 9, 81, 82, 83, 84, 85, 99, 100, 101, 102, 103, 104, 105, 106, 107, 108, 109, 110, 111, 112, 113, 114, 115, 116, 117, 118, 119, 120, 121, 122, 123, 124, 125, 126, 127, 128, 129, 130, 131, 132, 133, 134, 135, 136, 137, 138, 139, 140, 141, 142, 143, 144, 145, 146, 147] (by decide +kernel) (by decide +kernel)
set_option maxRecDepth 20000 in
theorem gX10_digest_X10_withHum : GoodIn wsX10_digest (wsV RX10 159 RX10 yX10_withHum wsX10_withHum) := goodIn_app (goodIn_of _ (by decide +kernel)) ggX10_digest_X10_withHum
set_option maxRecDepth 20000 in
theorem ggX10_digest_X10_howMany : GoodIn wsX10_digest wsX10_howMany := goodIn_r _ [89, 4, 90, 91, 92, 93, 94, 95, 96, 97, 98, 99, 100, 101, 102, 103, 104, 105, 106, 107, 108, 109, 110, 111, 112, 113, 114, 115, 116, 117, 118, 119, 120, 121, 122, 123, 124, 125, 126, 127, 128, 129, 130, 131, 132, 133, 134, 135, 136, 137, 138, 139, 140, 141, 142, 143, 144, 145, 146, 147] (by decide +kernel) (by decide +kernel)
set_option maxRecDepth 20000 in
theorem gX10_digest_X10_howMany : GoodIn wsX10_digest (wsV RX10 329 RX10 yX10_howMany wsX10_howMany) := goodIn_app (goodIn_of _ (by decide +kernel)) ggX10_digest_X10_howMany
theorem dX10_digest_0 : decode cX10_digest 0 = .ok (.aload_n 0, 1) := by decide +kernel
theorem dX10_digest_1 : decode cX10_digest 1 = .ok (.ldc2_w 341, 3) := by decide +kernel
theorem dX10_digest_4 : decode cX10_digest 4 = .ok (.putfield 334, 3) := by decide +kernel
theorem dX10_digest_7 : decode cX10_digest 7 = .ok (.iconst 0, 1) := by decide +kernel
theorem dX10_digest_8 : decode cX10_digest 8 = .ok (.istore_n 1, 1) := by decide +kernel
theorem dX10_digest_9 : decode cX10_digest 9 = .ok (.iload_n 1, 1) := by decide +kernel
theorem dX10_digest_10 : decode cX10_digest 10 = .ok (.bipush 10, 2) := by decide +kernel
theorem dX10_digest_12 : decode cX10_digest 12 = .ok (.if_icmp .ge 19, 3) := by decide +kernel
theorem dX10_digest_15 : decode cX10_digest 15 = .ok (.aload_n 0, 1) := by decide +kernel
theorem dX10_digest_16 : decode cX10_digest 16 = .ok (.aload_n 0, 1) := by decide +kernel
theorem dX10_digest_17 : decode cX10_digest 17 = .ok (.iload_n 1, 1) := by decide +kernel
theorem dX10_digest_18 : decode cX10_digest 18 = .ok (.invokevirtual 323, 3) := by decide +kernel
theorem dX10_digest_21 : decode cX10_digest 21 = .ok (.i2l, 1) := by decide +kernel
theorem dX10_digest_22 : decode cX10_digest 22 = .ok (.invokevirtual 337, 3) := by decide +kernel
theorem dX10_digest_25 : decode cX10_digest 25 = .ok (.iinc 1 1, 3) := by decide +kernel
theorem dX10_digest_28 : decode cX10_digest 28 = .ok (.goto (-19), 3) := by decide +kernel
theorem dX10_digest_31 : decode cX10_digest 31 = .ok (.iconst 0, 1) := by decide +kernel
theorem dX10_digest_32 : decode cX10_digest 32 = .ok (.istore_n 1, 1) := by decide +kernel
theorem dX10_digest_33 : decode cX10_digest 33 = .ok (.iload_n 1, 1) := by decide +kernel
theorem dX10_digest_34 : decode cX10_digest 34 = .ok (.bipush 15, 2) := by decide +kernel
theorem dX10_digest_36 : decode cX10_digest 36 = .ok (.if_icmp .ge 26, 3) := by decide +kernel
theorem dX10_digest_39 : decode cX10_digest 39 = .ok (.aload_n 0, 1) := by decide +kernel
theorem dX10_digest_40 : decode cX10_digest 40 = .ok (.getfield 224, 3) := by decide +kernel
theorem dX10_digest_43 : decode cX10_digest 43 = .ok (.ifCond .eq 19, 3) := by decide +kernel
theorem dX10_digest_46 : decode cX10_digest 46 = .ok (.aload_n 0, 1) := by decide +kernel
theorem dX10_digest_47 : decode cX10_digest 47 = .ok (.aload_n 0, 1) := by decide +kernel
theorem dX10_digest_48 : decode cX10_digest 48 = .ok (.iload_n 1, 1) := by decide +kernel
theorem dX10_digest_49 : decode cX10_digest 49 = .ok (.invokevirtual 309, 3) := by decide +kernel
theorem dX10_digest_52 : decode cX10_digest 52 = .ok (.i2l, 1) := by decide +kernel
theorem dX10_digest_53 : decode cX10_digest 53 = .ok (.invokevirtual 337, 3) := by decide +kernel
theorem dX10_digest_56 : decode cX10_digest 56 = .ok (.iinc 1 1, 3) := by decide +kernel
theorem dX10_digest_59 : decode cX10_digest 59 = .ok (.goto (-26), 3) := by decide +kernel
theorem dX10_digest_62 : decode cX10_digest 62 = .ok (.aload_n 0, 1) := by decide +kernel
theorem dX10_digest_63 : decode cX10_digest 63 = .ok (.invokevirtual 343, 3) := by decide +kernel
theorem dX10_digest_66 : decode cX10_digest 66 = .ok (.iconst 0, 1) := by decide +kernel
theorem dX10_digest_67 : decode cX10_digest 67 = .ok (.istore_n 1, 1) := by decide +kernel
theorem dX10_digest_68 : decode cX10_digest 68 = .ok (.iload_n 1, 1) := by decide +kernel
theorem dX10_digest_69 : decode cX10_digest 69 = .ok (.bipush 20, 2) := by decide +kernel
theorem dX10_digest_71 : decode cX10_digest 71 = .ok (.if_icmp .ge 18, 3) := by decide +kernel
theorem dX10_digest_74 : decode cX10_digest 74 = .ok (.aload_n 0, 1) := by decide +kernel
theorem dX10_digest_75 : decode cX10_digest 75 = .ok (.aload_n 0, 1) := by decide +kernel
theorem dX10_digest_76 : decode cX10_digest 76 = .ok (.iload_n 1, 1) := by decide +kernel
theorem dX10_digest_77 : decode cX10_digest 77 = .ok (.invokevirtual 159, 3) := by decide +kernel
theorem dX10_digest_80 : decode cX10_digest 80 = .ok (.invokevirtual 337, 3) := by decide +kernel
theorem dX10_digest_83 : decode cX10_digest 83 = .ok (.iinc 1 1, 3) := by decide +kernel
theorem dX10_digest_86 : decode cX10_digest 86 = .ok (.goto (-18), 3) := by decide +kernel
theorem dX10_digest_89 : decode cX10_digest 89 = .ok (.iconst 0, 1) := by decide +kernel
theorem dX10_digest_90 : decode cX10_digest 90 = .ok (.istore_n 1, 1) := by decide +kernel
theorem dX10_digest_91 : decode cX10_digest 91 = .ok (.iload_n 1, 1) := by decide +kernel
theorem dX10_digest_92 : decode cX10_digest 92 = .ok (.aload_n 0, 1) := by decide +kernel
theorem dX10_digest_93 : decode cX10_digest 93 = .ok (.getfield 55, 3) := by decide +kernel
theorem dX10_digest_96 : decode cX10_digest 96 = .ok (.if_icmp .ge 20, 3) := by decide +kernel
theorem dX10_digest_99 : decode cX10_digest 99 = .ok (.aload_n 0, 1) := by decide +kernel
theorem dX10_digest_100 : decode cX10_digest 100 = .ok (.aload_n 0, 1) := by decide +kernel
theorem dX10_digest_101 : decode cX10_digest 101 = .ok (.getfield 47, 3) := by decide +kernel
theorem dX10_digest_104 : decode cX10_digest 104 = .ok (.iload_n 1, 1) := by decide +kernel
theorem dX10_digest_105 : decode cX10_digest 105 = .ok (.iaload, 1) := by decide +kernel
theorem dX10_digest_106 : decode cX10_digest 106 = .ok (.i2l, 1) := by decide +kernel
theorem dX10_digest_107 : decode cX10_digest 107 = .ok (.invokevirtual 337, 3) := by decide +kernel
theorem dX10_digest_110 : decode cX10_digest 110 = .ok (.iinc 1 1, 3) := by decide +kernel
theorem dX10_digest_113 : decode cX10_digest 113 = .ok (.goto (-22), 3) := by decide +kernel
theorem dX10_digest_116 : decode cX10_digest 116 = .ok (.iconst 0, 1) := by decide +kernel
theorem dX10_digest_117 : decode cX10_digest 117 = .ok (.istore_n 1, 1) := by decide +kernel
theorem dX10_digest_118 : decode cX10_digest 118 = .ok (.iload_n 1, 1) := by decide +kernel
theorem dX10_digest_119 : decode cX10_digest 119 = .ok (.bipush 9, 2) := by decide +kernel
theorem dX10_digest_121 : decode cX10_digest 121 = .ok (.if_icmp .ge 19, 3) := by decide +kernel
theorem dX10_digest_124 : decode cX10_digest 124 = .ok (.aload_n 0, 1) := by decide +kernel
theorem dX10_digest_125 : decode cX10_digest 125 = .ok (.aload_n 0, 1) := by decide +kernel
theorem dX10_digest_126 : decode cX10_digest 126 = .ok (.iload_n 1, 1) := by decide +kernel
theorem dX10_digest_127 : decode cX10_digest 127 = .ok (.invokevirtual 329, 3) := by decide +kernel
theorem dX10_digest_130 : decode cX10_digest 130 = .ok (.i2l, 1) := by decide +kernel
theorem dX10_digest_131 : decode cX10_digest 131 = .ok (.invokevirtual 337, 3) := by decide +kernel
theorem dX10_digest_134 : decode cX10_digest 134 = .ok (.iinc 1 1, 3) := by decide +kernel
theorem dX10_digest_137 : decode cX10_digest 137 = .ok (.goto (-19), 3) := by decide +kernel
theorem dX10_digest_140 : decode cX10_digest 140 = .ok (.aload_n 0, 1) := by decide +kernel
theorem dX10_digest_141 : decode cX10_digest 141 = .ok (.getfield 334, 3) := by decide +kernel
theorem dX10_digest_144 : decode cX10_digest 144 = .ok (.lreturn, 1) := by decide +kernel
