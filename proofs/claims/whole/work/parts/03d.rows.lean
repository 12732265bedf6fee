theorem dX10_init_0 : decode cX10_init 0 = .ok (.aload_n 0, 1) := by decide +kernel
theorem dX10_init_1 : decode cX10_init 1 = .ok (.invokespecial 1, 3) := by decide +kernel
theorem dX10_init_4 : decode cX10_init 4 = .ok (.aload_n 0, 1) := by decide +kernel
theorem dX10_init_5 : decode cX10_init 5 = .ok (.bipush 120, 2) := by decide +kernel
theorem dX10_init_7 : decode cX10_init 7 = .ok (.newarray .byte, 2) := by decide +kernel
theorem dX10_init_9 : decode cX10_init 9 = .ok (.putfield 7, 3) := by decide +kernel
theorem dX10_init_12 : decode cX10_init 12 = .ok (.aload_n 0, 1) := by decide +kernel
theorem dX10_init_13 : decode cX10_init 13 = .ok (.iconst 2, 1) := by decide +kernel
theorem dX10_init_14 : decode cX10_init 14 = .ok (.newarray .int, 2) := by decide +kernel
theorem dX10_init_16 : decode cX10_init 16 = .ok (.putfield 13, 3) := by decide +kernel
theorem dX10_init_19 : decode cX10_init 19 = .ok (.aload_n 0, 1) := by decide +kernel
theorem dX10_init_20 : decode cX10_init 20 = .ok (.iconst 2, 1) := by decide +kernel
theorem dX10_init_21 : decode cX10_init 21 = .ok (.newarray .int, 2) := by decide +kernel
theorem dX10_init_23 : decode cX10_init 23 = .ok (.putfield 17, 3) := by decide +kernel
theorem dX10_init_26 : decode cX10_init 26 = .ok (.aload_n 0, 1) := by decide +kernel
theorem dX10_init_27 : decode cX10_init 27 = .ok (.bipush 18, 2) := by decide +kernel
theorem dX10_init_29 : decode cX10_init 29 = .ok (.newarray .int, 2) := by decide +kernel
theorem dX10_init_31 : decode cX10_init 31 = .ok (.putfield 20, 3) := by decide +kernel
theorem dX10_init_34 : decode cX10_init 34 = .ok (.aload_n 0, 1) := by decide +kernel
theorem dX10_init_35 : decode cX10_init 35 = .ok (.bipush 18, 2) := by decide +kernel
theorem dX10_init_37 : decode cX10_init 37 = .ok (.newarray .int, 2) := by decide +kernel
theorem dX10_init_39 : decode cX10_init 39 = .ok (.putfield 23, 3) := by decide +kernel
theorem dX10_init_42 : decode cX10_init 42 = .ok (.aload_n 0, 1) := by decide +kernel
theorem dX10_init_43 : decode cX10_init 43 = .ok (.bipush 18, 2) := by decide +kernel
theorem dX10_init_45 : decode cX10_init 45 = .ok (.newarray .int, 2) := by decide +kernel
theorem dX10_init_47 : decode cX10_init 47 = .ok (.putfield 26, 3) := by decide +kernel
theorem dX10_init_50 : decode cX10_init 50 = .ok (.aload_n 0, 1) := by decide +kernel
theorem dX10_init_51 : decode cX10_init 51 = .ok (.iconst 2, 1) := by decide +kernel
theorem dX10_init_52 : decode cX10_init 52 = .ok (.newarray .int, 2) := by decide +kernel
theorem dX10_init_54 : decode cX10_init 54 = .ok (.putfield 29, 3) := by decide +kernel
theorem dX10_init_57 : decode cX10_init 57 = .ok (.aload_n 0, 1) := by decide +kernel
theorem dX10_init_58 : decode cX10_init 58 = .ok (.bipush 12, 2) := by decide +kernel
theorem dX10_init_60 : decode cX10_init 60 = .ok (.newarray .int, 2) := by decide +kernel
theorem dX10_init_62 : decode cX10_init 62 = .ok (.putfield 32, 3) := by decide +kernel
theorem dX10_init_65 : decode cX10_init 65 = .ok (.aload_n 0, 1) := by decide +kernel
theorem dX10_init_66 : decode cX10_init 66 = .ok (.bipush 12, 2) := by decide +kernel
theorem dX10_init_68 : decode cX10_init 68 = .ok (.newarray .int, 2) := by decide +kernel
theorem dX10_init_70 : decode cX10_init 70 = .ok (.putfield 35, 3) := by decide +kernel
theorem dX10_init_73 : decode cX10_init 73 = .ok (.aload_n 0, 1) := by decide +kernel
theorem dX10_init_74 : decode cX10_init 74 = .ok (.bipush 34, 2) := by decide +kernel
theorem dX10_init_76 : decode cX10_init 76 = .ok (.newarray .int, 2) := by decide +kernel
theorem dX10_init_78 : decode cX10_init 78 = .ok (.putfield 38, 3) := by decide +kernel
theorem dX10_init_81 : decode cX10_init 81 = .ok (.aload_n 0, 1) := by decide +kernel
theorem dX10_init_82 : decode cX10_init 82 = .ok (.iconst 3, 1) := by decide +kernel
theorem dX10_init_83 : decode cX10_init 83 = .ok (.newarray .int, 2) := by decide +kernel
theorem dX10_init_85 : decode cX10_init 85 = .ok (.putfield 41, 3) := by decide +kernel
theorem dX10_init_88 : decode cX10_init 88 = .ok (.aload_n 0, 1) := by decide +kernel
theorem dX10_init_89 : decode cX10_init 89 = .ok (.sipush 1020, 3) := by decide +kernel
theorem dX10_init_92 : decode cX10_init 92 = .ok (.newarray .int, 2) := by decide +kernel
theorem dX10_init_94 : decode cX10_init 94 = .ok (.putfield 44, 3) := by decide +kernel
theorem dX10_init_97 : decode cX10_init 97 = .ok (.aload_n 0, 1) := by decide +kernel
theorem dX10_init_98 : decode cX10_init 98 = .ok (.bipush 68, 2) := by decide +kernel
theorem dX10_init_100 : decode cX10_init 100 = .ok (.newarray .int, 2) := by decide +kernel
theorem dX10_init_102 : decode cX10_init 102 = .ok (.putfield 47, 3) := by decide +kernel
theorem dX10_init_105 : decode cX10_init 105 = .ok (.aload_n 0, 1) := by decide +kernel
theorem dX10_init_106 : decode cX10_init 106 = .ok (.iconst 2, 1) := by decide +kernel
theorem dX10_init_107 : decode cX10_init 107 = .ok (.newarray .boolean, 2) := by decide +kernel
theorem dX10_init_109 : decode cX10_init 109 = .ok (.putfield 50, 3) := by decide +kernel
theorem dX10_init_112 : decode cX10_init 112 = .ok (.aload_n 0, 1) := by decide +kernel
theorem dX10_init_113 : decode cX10_init 113 = .ok (.sipush 3584, 3) := by decide +kernel
theorem dX10_init_116 : decode cX10_init 116 = .ok (.newarray .int, 2) := by decide +kernel
theorem dX10_init_118 : decode cX10_init 118 = .ok (.putfield 54, 3) := by decide +kernel
theorem dX10_init_121 : decode cX10_init 121 = .ok (.aload_n 0, 1) := by decide +kernel
theorem dX10_init_122 : decode cX10_init 122 = .ok (.iconst 4, 1) := by decide +kernel
theorem dX10_init_123 : decode cX10_init 123 = .ok (.newarray .int, 2) := by decide +kernel
theorem dX10_init_125 : decode cX10_init 125 = .ok (.putfield 57, 3) := by decide +kernel
theorem dX10_init_128 : decode cX10_init 128 = .ok (.aload_n 0, 1) := by decide +kernel
theorem dX10_init_129 : decode cX10_init 129 = .ok (.iconst 4, 1) := by decide +kernel
theorem dX10_init_130 : decode cX10_init 130 = .ok (.newarray .int, 2) := by decide +kernel
theorem dX10_init_132 : decode cX10_init 132 = .ok (.putfield 60, 3) := by decide +kernel
theorem dX10_init_135 : decode cX10_init 135 = .ok (.aload_n 0, 1) := by decide +kernel
theorem dX10_init_136 : decode cX10_init 136 = .ok (.getfield 13, 3) := by decide +kernel
theorem dX10_init_139 : decode cX10_init 139 = .ok (.iconst 0, 1) := by decide +kernel
theorem dX10_init_140 : decode cX10_init 140 = .ok (.iconst 4, 1) := by decide +kernel
theorem dX10_init_141 : decode cX10_init 141 = .ok (.iastore, 1) := by decide +kernel
theorem dX10_init_142 : decode cX10_init 142 = .ok (.return_, 1) := by decide +kernel
theorem dX10_in_0 : decode cX10_in 0 = .ok (.iload_n 0, 1) := by decide +kernel
theorem dX10_in_1 : decode cX10_in 1 = .ok (.iload_n 1, 1) := by decide +kernel
theorem dX10_in_2 : decode cX10_in 2 = .ok (.if_icmp .lt 12, 3) := by decide +kernel
theorem dX10_in_5 : decode cX10_in 5 = .ok (.iload_n 0, 1) := by decide +kernel
theorem dX10_in_6 : decode cX10_in 6 = .ok (.iload_n 2, 1) := by decide +kernel
theorem dX10_in_7 : decode cX10_in 7 = .ok (.if_icmp .gt 7, 3) := by decide +kernel
theorem dX10_in_10 : decode cX10_in 10 = .ok (.iconst 1, 1) := by decide +kernel
theorem dX10_in_11 : decode cX10_in 11 = .ok (.goto 4, 3) := by decide +kernel
theorem dX10_in_14 : decode cX10_in 14 = .ok (.iconst 0, 1) := by decide +kernel
theorem dX10_in_15 : decode cX10_in 15 = .ok (.ireturn, 1) := by decide +kernel
theorem dX10_has_0 : decode cX10_has 0 = .ok (.iload_n 0, 1) := by decide +kernel
theorem dX10_has_1 : decode cX10_has 1 = .ok (.iload_n 1, 1) := by decide +kernel
theorem dX10_has_2 : decode cX10_has 2 = .ok (.ishr, 1) := by decide +kernel
theorem dX10_has_3 : decode cX10_has 3 = .ok (.iconst 1, 1) := by decide +kernel
theorem dX10_has_4 : decode cX10_has 4 = .ok (.iand, 1) := by decide +kernel
theorem dX10_has_5 : decode cX10_has 5 = .ok (.iconst 1, 1) := by decide +kernel
theorem dX10_has_6 : decode cX10_has 6 = .ok (.if_icmp .ne 7, 3) := by decide +kernel
theorem dX10_has_9 : decode cX10_has 9 = .ok (.iconst 1, 1) := by decide +kernel
theorem dX10_has_10 : decode cX10_has 10 = .ok (.goto 4, 3) := by decide +kernel
theorem dX10_has_13 : decode cX10_has 13 = .ok (.iconst 0, 1) := by decide +kernel
theorem dX10_has_14 : decode cX10_has 14 = .ok (.ireturn, 1) := by decide +kernel
theorem dX10_bitsOf_0 : decode cX10_bitsOf 0 = .ok (.iconst 0, 1) := by decide +kernel
theorem dX10_bitsOf_1 : decode cX10_bitsOf 1 = .ok (.istore_n 1, 1) := by decide +kernel
theorem dX10_bitsOf_2 : decode cX10_bitsOf 2 = .ok (.iconst 0, 1) := by decide +kernel
theorem dX10_bitsOf_3 : decode cX10_bitsOf 3 = .ok (.istore_n 2, 1) := by decide +kernel
theorem dX10_bitsOf_4 : decode cX10_bitsOf 4 = .ok (.iload_n 2, 1) := by decide +kernel
theorem dX10_bitsOf_5 : decode cX10_bitsOf 5 = .ok (.bipush 10, 2) := by decide +kernel
theorem dX10_bitsOf_7 : decode cX10_bitsOf 7 = .ok (.if_icmp .ge 17, 3) := by decide +kernel
theorem dX10_bitsOf_10 : decode cX10_bitsOf 10 = .ok (.iload_n 1, 1) := by decide +kernel
theorem dX10_bitsOf_11 : decode cX10_bitsOf 11 = .ok (.iload_n 0, 1) := by decide +kernel
theorem dX10_bitsOf_12 : decode cX10_bitsOf 12 = .ok (.iload_n 2, 1) := by decide +kernel
theorem dX10_bitsOf_13 : decode cX10_bitsOf 13 = .ok (.ishr, 1) := by decide +kernel
theorem dX10_bitsOf_14 : decode cX10_bitsOf 14 = .ok (.iconst 1, 1) := by decide +kernel
theorem dX10_bitsOf_15 : decode cX10_bitsOf 15 = .ok (.iand, 1) := by decide +kernel
theorem dX10_bitsOf_16 : decode cX10_bitsOf 16 = .ok (.iadd, 1) := by decide +kernel
theorem dX10_bitsOf_17 : decode cX10_bitsOf 17 = .ok (.istore_n 1, 1) := by decide +kernel
theorem dX10_bitsOf_18 : decode cX10_bitsOf 18 = .ok (.iinc 2 1, 3) := by decide +kernel
theorem dX10_bitsOf_21 : decode cX10_bitsOf 21 = .ok (.goto (-17), 3) := by decide +kernel
theorem dX10_bitsOf_24 : decode cX10_bitsOf 24 = .ok (.iload_n 1, 1) := by decide +kernel
theorem dX10_bitsOf_25 : decode cX10_bitsOf 25 = .ok (.ireturn, 1) := by decide +kernel
set_option maxRecDepth 20000 in
theorem ggX10_type_X10_in : GoodIn wsX10_type wsX10_in := goodIn_r _ [6] (by decide +kernel) (by decide +kernel)
set_option maxRecDepth 20000 in
theorem gX10_type_X10_in : GoodIn wsX10_type (va_wsS RX10 63 yX10_in wsX10_in) := goodIn_app (goodIn_of _ (by decide +kernel)) ggX10_type_X10_in
theorem dX10_type_0 : decode cX10_type 0 = .ok (.iload_n 1, 1) := by decide +kernel
theorem dX10_type_1 : decode cX10_type 1 = .ok (.iconst 0, 1) := by decide +kernel
theorem dX10_type_2 : decode cX10_type 2 = .ok (.sipush 255, 3) := by decide +kernel
theorem dX10_type_5 : decode cX10_type 5 = .ok (.invokestatic 63, 3) := by decide +kernel
theorem dX10_type_8 : decode cX10_type 8 = .ok (.ifCond .ne 5, 3) := by decide +kernel
theorem dX10_type_11 : decode cX10_type 11 = .ok (.iconst (-1), 1) := by decide +kernel
theorem dX10_type_12 : decode cX10_type 12 = .ok (.ireturn, 1) := by decide +kernel
theorem dX10_type_13 : decode cX10_type 13 = .ok (.aload_n 0, 1) := by decide +kernel
theorem dX10_type_14 : decode cX10_type 14 = .ok (.getfield 67, 3) := by decide +kernel
theorem dX10_type_17 : decode cX10_type 17 = .ok (.bipush 120, 2) := by decide +kernel
theorem dX10_type_19 : decode cX10_type 19 = .ok (.if_icmp .ne 6, 3) := by decide +kernel
theorem dX10_type_22 : decode cX10_type 22 = .ok (.bipush (-3), 2) := by decide +kernel
theorem dX10_type_24 : decode cX10_type 24 = .ok (.ireturn, 1) := by decide +kernel
theorem dX10_type_25 : decode cX10_type 25 = .ok (.aload_n 0, 1) := by decide +kernel
theorem dX10_type_26 : decode cX10_type 26 = .ok (.getfield 7, 3) := by decide +kernel
theorem dX10_type_29 : decode cX10_type 29 = .ok (.aload_n 0, 1) := by decide +kernel
theorem dX10_type_30 : decode cX10_type 30 = .ok (.getfield 67, 3) := by decide +kernel
theorem dX10_type_33 : decode cX10_type 33 = .ok (.iload_n 1, 1) := by decide +kernel
theorem dX10_type_34 : decode cX10_type 34 = .ok (.i2b, 1) := by decide +kernel
theorem dX10_type_35 : decode cX10_type 35 = .ok (.bastore, 1) := by decide +kernel
theorem dX10_type_36 : decode cX10_type 36 = .ok (.aload_n 0, 1) := by decide +kernel
theorem dX10_type_37 : decode cX10_type 37 = .ok (.dup, 1) := by decide +kernel
theorem dX10_type_38 : decode cX10_type 38 = .ok (.getfield 67, 3) := by decide +kernel
theorem dX10_type_41 : decode cX10_type 41 = .ok (.iconst 1, 1) := by decide +kernel
theorem dX10_type_42 : decode cX10_type 42 = .ok (.iadd, 1) := by decide +kernel
theorem dX10_type_43 : decode cX10_type 43 = .ok (.putfield 67, 3) := by decide +kernel
theorem dX10_type_46 : decode cX10_type 46 = .ok (.aload_n 0, 1) := by decide +kernel
theorem dX10_type_47 : decode cX10_type 47 = .ok (.getfield 67, 3) := by decide +kernel
theorem dX10_type_50 : decode cX10_type 50 = .ok (.ireturn, 1) := by decide +kernel
theorem dX10_clear_0 : decode cX10_clear 0 = .ok (.aload_n 0, 1) := by decide +kernel
theorem dX10_clear_1 : decode cX10_clear 1 = .ok (.getfield 67, 3) := by decide +kernel
theorem dX10_clear_4 : decode cX10_clear 4 = .ok (.istore_n 1, 1) := by decide +kernel
theorem dX10_clear_5 : decode cX10_clear 5 = .ok (.aload_n 0, 1) := by decide +kernel
theorem dX10_clear_6 : decode cX10_clear 6 = .ok (.iconst 0, 1) := by decide +kernel
theorem dX10_clear_7 : decode cX10_clear 7 = .ok (.putfield 67, 3) := by decide +kernel
theorem dX10_clear_10 : decode cX10_clear 10 = .ok (.iload_n 1, 1) := by decide +kernel
theorem dX10_clear_11 : decode cX10_clear 11 = .ok (.ireturn, 1) := by decide +kernel
theorem dX10_here_0 : decode cX10_here 0 = .ok (.aload_n 0, 1) := by decide +kernel
theorem dX10_here_1 : decode cX10_here 1 = .ok (.getfield 71, 3) := by decide +kernel
theorem dX10_here_4 : decode cX10_here 4 = .ok (.aload_n 0, 1) := by decide +kernel
theorem dX10_here_5 : decode cX10_here 5 = .ok (.getfield 67, 3) := by decide +kernel
theorem dX10_here_8 : decode cX10_here 8 = .ok (.if_icmp .ge 19, 3) := by decide +kernel
theorem dX10_here_11 : decode cX10_here 11 = .ok (.aload_n 0, 1) := by decide +kernel
theorem dX10_here_12 : decode cX10_here 12 = .ok (.getfield 7, 3) := by decide +kernel
theorem dX10_here_15 : decode cX10_here 15 = .ok (.aload_n 0, 1) := by decide +kernel
theorem dX10_here_16 : decode cX10_here 16 = .ok (.getfield 71, 3) := by decide +kernel
theorem dX10_here_19 : decode cX10_here 19 = .ok (.baload, 1) := by decide +kernel
theorem dX10_here_20 : decode cX10_here 20 = .ok (.sipush 255, 3) := by decide +kernel
theorem dX10_here_23 : decode cX10_here 23 = .ok (.iand, 1) := by decide +kernel
theorem dX10_here_24 : decode cX10_here 24 = .ok (.goto 5, 3) := by decide +kernel
theorem dX10_here_27 : decode cX10_here 27 = .ok (.bipush (-9), 2) := by decide +kernel
theorem dX10_here_29 : decode cX10_here 29 = .ok (.ireturn, 1) := by decide +kernel
set_option maxRecDepth 20000 in
theorem ggX10_step_X10_here : GoodIn wsX10_step wsX10_here := goodIn_r _ [9, 1, 10, 11, 15, 16, 17, 18, 19, 20, 21, 22, 23, 24, 25, 26, 27, 28, 29, 30, 31, 32, 33, 34, 35, 36, 37, 38, 39, 40] (by decide +kernel) (by decide +kernel)
set_option maxRecDepth 20000 in
theorem gX10_step_X10_here : GoodIn wsX10_step (wsV RX10 74 RX10 yX10_here wsX10_here) := goodIn_app (goodIn_of _ (by decide +kernel)) ggX10_step_X10_here
set_option maxRecDepth 20000 in
theorem ggX10_step_X10_in : GoodIn wsX10_step wsX10_in := goodIn_r _ [14] (by decide +kernel) (by decide +kernel)
set_option maxRecDepth 20000 in
theorem gX10_step_X10_in : GoodIn wsX10_step (va_wsS RX10 63 yX10_in wsX10_in) := goodIn_app (goodIn_of _ (by decide +kernel)) ggX10_step_X10_in
theorem dX10_step_0 : decode cX10_step 0 = .ok (.aload_n 0, 1) := by decide +kernel
theorem dX10_step_1 : decode cX10_step 1 = .ok (.invokevirtual 74, 3) := by decide +kernel
theorem dX10_step_4 : decode cX10_step 4 = .ok (.bipush 32, 2) := by decide +kernel
theorem dX10_step_6 : decode cX10_step 6 = .ok (.if_icmp .ne 16, 3) := by decide +kernel
theorem dX10_step_9 : decode cX10_step 9 = .ok (.aload_n 0, 1) := by decide +kernel
theorem dX10_step_10 : decode cX10_step 10 = .ok (.dup, 1) := by decide +kernel
theorem dX10_step_11 : decode cX10_step 11 = .ok (.getfield 71, 3) := by decide +kernel
theorem dX10_step_14 : decode cX10_step 14 = .ok (.iconst 1, 1) := by decide +kernel
theorem dX10_step_15 : decode cX10_step 15 = .ok (.iadd, 1) := by decide +kernel
theorem dX10_step_16 : decode cX10_step 16 = .ok (.putfield 71, 3) := by decide +kernel
theorem dX10_step_19 : decode cX10_step 19 = .ok (.goto (-19), 3) := by decide +kernel
theorem dX10_step_22 : decode cX10_step 22 = .ok (.aload_n 0, 1) := by decide +kernel
theorem dX10_step_23 : decode cX10_step 23 = .ok (.aload_n 0, 1) := by decide +kernel
theorem dX10_step_24 : decode cX10_step 24 = .ok (.getfield 71, 3) := by decide +kernel
theorem dX10_step_27 : decode cX10_step 27 = .ok (.putfield 78, 3) := by decide +kernel
theorem dX10_step_30 : decode cX10_step 30 = .ok (.aload_n 0, 1) := by decide +kernel
theorem dX10_step_31 : decode cX10_step 31 = .ok (.iconst 0, 1) := by decide +kernel
theorem dX10_step_32 : decode cX10_step 32 = .ok (.putfield 81, 3) := by decide +kernel
theorem dX10_step_35 : decode cX10_step 35 = .ok (.aload_n 0, 1) := by decide +kernel
theorem dX10_step_36 : decode cX10_step 36 = .ok (.invokevirtual 74, 3) := by decide +kernel
theorem dX10_step_39 : decode cX10_step 39 = .ok (.istore_n 1, 1) := by decide +kernel
theorem dX10_step_40 : decode cX10_step 40 = .ok (.iload_n 1, 1) := by decide +kernel
theorem dX10_step_41 : decode cX10_step 41 = .ok (.bipush (-9), 2) := by decide +kernel
theorem dX10_step_43 : decode cX10_step 43 = .ok (.if_icmp .ne 11, 3) := by decide +kernel
theorem dX10_step_46 : decode cX10_step 46 = .ok (.aload_n 0, 1) := by decide +kernel
theorem dX10_step_47 : decode cX10_step 47 = .ok (.iconst 4, 1) := by decide +kernel
theorem dX10_step_48 : decode cX10_step 48 = .ok (.putfield 84, 3) := by decide +kernel
theorem dX10_step_51 : decode cX10_step 51 = .ok (.goto 209, 3) := by decide +kernel
theorem dX10_step_54 : decode cX10_step 54 = .ok (.iload_n 1, 1) := by decide +kernel
theorem dX10_step_55 : decode cX10_step 55 = .ok (.bipush 48, 2) := by decide +kernel
theorem dX10_step_57 : decode cX10_step 57 = .ok (.bipush 57, 2) := by decide +kernel
theorem dX10_step_59 : decode cX10_step 59 = .ok (.invokestatic 63, 3) := by decide +kernel
theorem dX10_step_62 : decode cX10_step 62 = .ok (.ifCond .eq 105, 3) := by decide +kernel
theorem dX10_step_65 : decode cX10_step 65 = .ok (.aload_n 0, 1) := by decide +kernel
theorem dX10_step_66 : decode cX10_step 66 = .ok (.invokevirtual 74, 3) := by decide +kernel
theorem dX10_step_69 : decode cX10_step 69 = .ok (.bipush 48, 2) := by decide +kernel
theorem dX10_step_71 : decode cX10_step 71 = .ok (.bipush 57, 2) := by decide +kernel
theorem dX10_step_73 : decode cX10_step 73 = .ok (.invokestatic 63, 3) := by decide +kernel
theorem dX10_step_76 : decode cX10_step 76 = .ok (.ifCond .eq 51, 3) := by decide +kernel
theorem dX10_step_79 : decode cX10_step 79 = .ok (.aload_n 0, 1) := by decide +kernel
theorem dX10_step_80 : decode cX10_step 80 = .ok (.aload_n 0, 1) := by decide +kernel
theorem dX10_step_81 : decode cX10_step 81 = .ok (.getfield 81, 3) := by decide +kernel
theorem dX10_step_84 : decode cX10_step 84 = .ok (.bipush 99, 2) := by decide +kernel
theorem dX10_step_86 : decode cX10_step 86 = .ok (.if_icmp .le 10, 3) := by decide +kernel
theorem dX10_step_89 : decode cX10_step 89 = .ok (.aload_n 0, 1) := by decide +kernel
theorem dX10_step_90 : decode cX10_step 90 = .ok (.getfield 81, 3) := by decide +kernel
theorem dX10_step_93 : decode cX10_step 93 = .ok (.goto 18, 3) := by decide +kernel
theorem dX10_step_96 : decode cX10_step 96 = .ok (.bipush 10, 2) := by decide +kernel
theorem dX10_step_98 : decode cX10_step 98 = .ok (.aload_n 0, 1) := by decide +kernel
theorem dX10_step_99 : decode cX10_step 99 = .ok (.getfield 81, 3) := by decide +kernel
theorem dX10_step_102 : decode cX10_step 102 = .ok (.imul, 1) := by decide +kernel
theorem dX10_step_103 : decode cX10_step 103 = .ok (.aload_n 0, 1) := by decide +kernel
theorem dX10_step_104 : decode cX10_step 104 = .ok (.invokevirtual 74, 3) := by decide +kernel
theorem dX10_step_107 : decode cX10_step 107 = .ok (.iadd, 1) := by decide +kernel
theorem dX10_step_108 : decode cX10_step 108 = .ok (.bipush 48, 2) := by decide +kernel
theorem dX10_step_110 : decode cX10_step 110 = .ok (.isub, 1) := by decide +kernel
theorem dX10_step_111 : decode cX10_step 111 = .ok (.putfield 81, 3) := by decide +kernel
theorem dX10_step_114 : decode cX10_step 114 = .ok (.aload_n 0, 1) := by decide +kernel
theorem dX10_step_115 : decode cX10_step 115 = .ok (.dup, 1) := by decide +kernel
theorem dX10_step_116 : decode cX10_step 116 = .ok (.getfield 71, 3) := by decide +kernel
theorem dX10_step_119 : decode cX10_step 119 = .ok (.iconst 1, 1) := by decide +kernel
theorem dX10_step_120 : decode cX10_step 120 = .ok (.iadd, 1) := by decide +kernel
theorem dX10_step_121 : decode cX10_step 121 = .ok (.putfield 71, 3) := by decide +kernel
theorem dX10_step_124 : decode cX10_step 124 = .ok (.goto (-59), 3) := by decide +kernel
theorem dX10_step_127 : decode cX10_step 127 = .ok (.aload_n 0, 1) := by decide +kernel
theorem dX10_step_128 : decode cX10_step 128 = .ok (.aload_n 0, 1) := by decide +kernel
theorem dX10_step_129 : decode cX10_step 129 = .ok (.getfield 81, 3) := by decide +kernel
theorem dX10_step_132 : decode cX10_step 132 = .ok (.bipush 99, 2) := by decide +kernel
theorem dX10_step_134 : decode cX10_step 134 = .ok (.if_icmp .gt 22, 3) := by decide +kernel
theorem dX10_step_137 : decode cX10_step 137 = .ok (.iload_n 1, 1) := by decide +kernel
theorem dX10_step_138 : decode cX10_step 138 = .ok (.bipush 48, 2) := by decide +kernel
theorem dX10_step_140 : decode cX10_step 140 = .ok (.if_icmp .ne 20, 3) := by decide +kernel
theorem dX10_step_143 : decode cX10_step 143 = .ok (.aload_n 0, 1) := by decide +kernel
theorem dX10_step_144 : decode cX10_step 144 = .ok (.getfield 71, 3) := by decide +kernel
theorem dX10_step_147 : decode cX10_step 147 = .ok (.aload_n 0, 1) := by decide +kernel
theorem dX10_step_148 : decode cX10_step 148 = .ok (.getfield 78, 3) := by decide +kernel
theorem dX10_step_151 : decode cX10_step 151 = .ok (.isub, 1) := by decide +kernel
theorem dX10_step_152 : decode cX10_step 152 = .ok (.iconst 1, 1) := by decide +kernel
theorem dX10_step_153 : decode cX10_step 153 = .ok (.if_icmp .le 7, 3) := by decide +kernel
theorem dX10_step_156 : decode cX10_step 156 = .ok (.iconst 5, 1) := by decide +kernel
theorem dX10_step_157 : decode cX10_step 157 = .ok (.goto 4, 3) := by decide +kernel
theorem dX10_step_160 : decode cX10_step 160 = .ok (.iconst 2, 1) := by decide +kernel
theorem dX10_step_161 : decode cX10_step 161 = .ok (.putfield 84, 3) := by decide +kernel
theorem dX10_step_164 : decode cX10_step 164 = .ok (.goto 96, 3) := by decide +kernel
theorem dX10_step_167 : decode cX10_step 167 = .ok (.iload_n 1, 1) := by decide +kernel
theorem dX10_step_168 : decode cX10_step 168 = .ok (.bipush 97, 2) := by decide +kernel
theorem dX10_step_170 : decode cX10_step 170 = .ok (.bipush 122, 2) := by decide +kernel
theorem dX10_step_172 : decode cX10_step 172 = .ok (.invokestatic 63, 3) := by decide +kernel
theorem dX10_step_175 : decode cX10_step 175 = .ok (.ifCond .eq 60, 3) := by decide +kernel
theorem dX10_step_178 : decode cX10_step 178 = .ok (.aload_n 0, 1) := by decide +kernel
theorem dX10_step_179 : decode cX10_step 179 = .ok (.invokevirtual 74, 3) := by decide +kernel
theorem dX10_step_182 : decode cX10_step 182 = .ok (.bipush 97, 2) := by decide +kernel
theorem dX10_step_184 : decode cX10_step 184 = .ok (.bipush 122, 2) := by decide +kernel
theorem dX10_step_186 : decode cX10_step 186 = .ok (.invokestatic 63, 3) := by decide +kernel
theorem dX10_step_189 : decode cX10_step 189 = .ok (.ifCond .eq 16, 3) := by decide +kernel
theorem dX10_step_192 : decode cX10_step 192 = .ok (.aload_n 0, 1) := by decide +kernel
theorem dX10_step_193 : decode cX10_step 193 = .ok (.dup, 1) := by decide +kernel
theorem dX10_step_194 : decode cX10_step 194 = .ok (.getfield 71, 3) := by decide +kernel
theorem dX10_step_197 : decode cX10_step 197 = .ok (.iconst 1, 1) := by decide +kernel
theorem dX10_step_198 : decode cX10_step 198 = .ok (.iadd, 1) := by decide +kernel
theorem dX10_step_199 : decode cX10_step 199 = .ok (.putfield 71, 3) := by decide +kernel
theorem dX10_step_202 : decode cX10_step 202 = .ok (.goto (-24), 3) := by decide +kernel
theorem dX10_step_205 : decode cX10_step 205 = .ok (.aload_n 0, 1) := by decide +kernel
theorem dX10_step_206 : decode cX10_step 206 = .ok (.aload_n 0, 1) := by decide +kernel
theorem dX10_step_207 : decode cX10_step 207 = .ok (.getfield 71, 3) := by decide +kernel
theorem dX10_step_210 : decode cX10_step 210 = .ok (.aload_n 0, 1) := by decide +kernel
theorem dX10_step_211 : decode cX10_step 211 = .ok (.getfield 78, 3) := by decide +kernel
theorem dX10_step_214 : decode cX10_step 214 = .ok (.isub, 1) := by decide +kernel
theorem dX10_step_215 : decode cX10_step 215 = .ok (.iconst 1, 1) := by decide +kernel
theorem dX10_step_216 : decode cX10_step 216 = .ok (.if_icmp .ne 7, 3) := by decide +kernel
theorem dX10_step_219 : decode cX10_step 219 = .ok (.iload_n 1, 1) := by decide +kernel
theorem dX10_step_220 : decode cX10_step 220 = .ok (.goto 4, 3) := by decide +kernel
theorem dX10_step_223 : decode cX10_step 223 = .ok (.iconst 0, 1) := by decide +kernel
theorem dX10_step_224 : decode cX10_step 224 = .ok (.putfield 81, 3) := by decide +kernel
theorem dX10_step_227 : decode cX10_step 227 = .ok (.aload_n 0, 1) := by decide +kernel
theorem dX10_step_228 : decode cX10_step 228 = .ok (.iconst 1, 1) := by decide +kernel
theorem dX10_step_229 : decode cX10_step 229 = .ok (.putfield 84, 3) := by decide +kernel
theorem dX10_step_232 : decode cX10_step 232 = .ok (.goto 28, 3) := by decide +kernel
theorem dX10_step_235 : decode cX10_step 235 = .ok (.aload_n 0, 1) := by decide +kernel
theorem dX10_step_236 : decode cX10_step 236 = .ok (.dup, 1) := by decide +kernel
theorem dX10_step_237 : decode cX10_step 237 = .ok (.getfield 71, 3) := by decide +kernel
theorem dX10_step_240 : decode cX10_step 240 = .ok (.iconst 1, 1) := by decide +kernel
theorem dX10_step_241 : decode cX10_step 241 = .ok (.iadd, 1) := by decide +kernel
theorem dX10_step_242 : decode cX10_step 242 = .ok (.putfield 71, 3) := by decide +kernel
theorem dX10_step_245 : decode cX10_step 245 = .ok (.aload_n 0, 1) := by decide +kernel
theorem dX10_step_246 : decode cX10_step 246 = .ok (.iload_n 1, 1) := by decide +kernel
theorem dX10_step_247 : decode cX10_step 247 = .ok (.bipush 59, 2) := by decide +kernel
theorem dX10_step_249 : decode cX10_step 249 = .ok (.if_icmp .ne 7, 3) := by decide +kernel
theorem dX10_step_252 : decode cX10_step 252 = .ok (.iconst 3, 1) := by decide +kernel
theorem dX10_step_253 : decode cX10_step 253 = .ok (.goto 4, 3) := by decide +kernel
theorem dX10_step_256 : decode cX10_step 256 = .ok (.iconst 5, 1) := by decide +kernel
theorem dX10_step_257 : decode cX10_step 257 = .ok (.putfield 84, 3) := by decide +kernel
theorem dX10_step_260 : decode cX10_step 260 = .ok (.return_, 1) := by decide +kernel
set_option maxRecDepth 20000 in
theorem ggX10_due_X10_step : GoodIn wsX10_due wsX10_step := goodIn_r _ [6, 7, 8, 9, 10, 11, 12, 13, 5, 14, 15, 16, 17, 18, 19, 20, 21, 22, 23, 24, 25, 26, 27, 28, 29, 30, 31, 32, 33, 34, 35, 36, 37, 38, 39, 40, 41, 42, 43, 44, 45] (by decide +kernel) (by decide +kernel)
set_option maxRecDepth 20000 in
theorem gX10_due_X10_step : GoodIn wsX10_due (wsV RX10 91 RX10 yX10_step wsX10_step) := goodIn_app (goodIn_of _ (by decide +kernel)) ggX10_due_X10_step
theorem dX10_due_0 : decode cX10_due 0 = .ok (.aload_n 0, 1) := by decide +kernel
theorem dX10_due_1 : decode cX10_due 1 = .ok (.getfield 87, 3) := by decide +kernel
theorem dX10_due_4 : decode cX10_due 4 = .ok (.ifCond .eq 4, 3) := by decide +kernel
theorem dX10_due_7 : decode cX10_due 7 = .ok (.return_, 1) := by decide +kernel
theorem dX10_due_8 : decode cX10_due 8 = .ok (.iload_n 1, 1) := by decide +kernel
theorem dX10_due_9 : decode cX10_due 9 = .ok (.ifCond .eq 10, 3) := by decide +kernel
theorem dX10_due_12 : decode cX10_due 12 = .ok (.aload_n 0, 1) := by decide +kernel
theorem dX10_due_13 : decode cX10_due 13 = .ok (.invokevirtual 91, 3) := by decide +kernel
theorem dX10_due_16 : decode cX10_due 16 = .ok (.goto 8, 3) := by decide +kernel
theorem dX10_due_19 : decode cX10_due 19 = .ok (.aload_n 0, 1) := by decide +kernel
theorem dX10_due_20 : decode cX10_due 20 = .ok (.iconst 1, 1) := by decide +kernel
theorem dX10_due_21 : decode cX10_due 21 = .ok (.putfield 87, 3) := by decide +kernel
theorem dX10_due_24 : decode cX10_due 24 = .ok (.return_, 1) := by decide +kernel
set_option maxRecDepth 20000 in
theorem ggX10_number_X10_in : GoodIn wsX10_number wsX10_in := goodIn_r _ [6] (by decide +kernel) (by decide +kernel)
set_option maxRecDepth 20000 in
theorem gX10_number_X10_in : GoodIn wsX10_number (va_wsS RX10 63 yX10_in wsX10_in) := goodIn_app (goodIn_of _ (by decide +kernel)) ggX10_number_X10_in
set_option maxRecDepth 20000 in
theorem ggX10_number_X10_due : GoodIn wsX10_number wsX10_due := goodIn_r _ [10, 11, 12, 13, 14, 5, 15, 16, 17, 1, 2, 18, 19, 20, 21, 22, 23, 3, 4, 6, 24, 25, 26, 27, 28, 29, 30, 31, 32, 33, 34, 35, 36, 37, 38, 39, 40, 41, 42, 43, 44, 45, 46, 47, 48, 49] (by decide +kernel) (by decide +kernel)
set_option maxRecDepth 20000 in
theorem gX10_number_X10_due : GoodIn wsX10_number (wsV RX10 94 RX10 yX10_due wsX10_due) := goodIn_app (goodIn_of _ (by decide +kernel)) ggX10_number_X10_due
theorem dX10_number_0 : decode cX10_number 0 = .ok (.aload_n 0, 1) := by decide +kernel
theorem dX10_number_1 : decode cX10_number 1 = .ok (.getfield 81, 3) := by decide +kernel
theorem dX10_number_4 : decode cX10_number 4 = .ok (.istore_n 3, 1) := by decide +kernel
theorem dX10_number_5 : decode cX10_number 5 = .ok (.aload_n 0, 1) := by decide +kernel
theorem dX10_number_6 : decode cX10_number 6 = .ok (.aload_n 0, 1) := by decide +kernel
theorem dX10_number_7 : decode cX10_number 7 = .ok (.getfield 84, 3) := by decide +kernel
theorem dX10_number_10 : decode cX10_number 10 = .ok (.iconst 2, 1) := by decide +kernel
theorem dX10_number_11 : decode cX10_number 11 = .ok (.if_icmp .ne 16, 3) := by decide +kernel
theorem dX10_number_14 : decode cX10_number 14 = .ok (.iload_n 3, 1) := by decide +kernel
theorem dX10_number_15 : decode cX10_number 15 = .ok (.iload_n 1, 1) := by decide +kernel
theorem dX10_number_16 : decode cX10_number 16 = .ok (.iload_n 2, 1) := by decide +kernel
theorem dX10_number_17 : decode cX10_number 17 = .ok (.invokestatic 63, 3) := by decide +kernel
theorem dX10_number_20 : decode cX10_number 20 = .ok (.ifCond .eq 7, 3) := by decide +kernel
theorem dX10_number_23 : decode cX10_number 23 = .ok (.iconst 1, 1) := by decide +kernel
theorem dX10_number_24 : decode cX10_number 24 = .ok (.goto 4, 3) := by decide +kernel
theorem dX10_number_27 : decode cX10_number 27 = .ok (.iconst 0, 1) := by decide +kernel
theorem dX10_number_28 : decode cX10_number 28 = .ok (.invokevirtual 94, 3) := by decide +kernel
theorem dX10_number_31 : decode cX10_number 31 = .ok (.iload_n 3, 1) := by decide +kernel
theorem dX10_number_32 : decode cX10_number 32 = .ok (.ireturn, 1) := by decide +kernel
set_option maxRecDepth 20000 in
theorem ggX10_item_X10_number : GoodIn wsX10_item wsX10_number := goodIn_r _ [16, 6, 7, 17, 18, 15, 19, 20, 21, 22, 23, 2, 24, 25, 26, 27, 28, 29, 30, 31, 32, 33, 34, 35, 36, 37, 38, 39, 40, 41, 42, 43, 44, 45, 46, 47, 48, 49, 50, 51, 52, 53, 54, 55, 56, 57, 58, 59, 60, 61] (by decide +kernel) (by decide +kernel)
set_option maxRecDepth 20000 in
theorem gX10_item_X10_number : GoodIn wsX10_item (wsV RX10 98 RX10 yX10_number wsX10_number) := goodIn_app (goodIn_of _ (by decide +kernel)) ggX10_item_X10_number
set_option maxRecDepth 20000 in
theorem ggX10_item_X10_due : GoodIn wsX10_item wsX10_due := goodIn_r _ [23, 2, 24, 25, 26, 15, 27, 28, 29, 6, 7, 30, 31, 32, 33, 34, 35, 17, 18, 19, 36, 37, 38, 39, 40, 41, 42, 43, 44, 45, 46, 47, 48, 49, 50, 51, 52, 53, 54, 55, 56, 57, 58, 59, 60, 61] (by decide +kernel) (by decide +kernel)
set_option maxRecDepth 20000 in
theorem gX10_item_X10_due : GoodIn wsX10_item (wsV RX10 94 RX10 yX10_due wsX10_due) := goodIn_app (goodIn_of _ (by decide +kernel)) ggX10_item_X10_due
theorem dX10_item_0 : decode cX10_item 0 = .ok (.iload_n 1, 1) := by decide +kernel
theorem dX10_item_1 : decode cX10_item 1 = .ok (.lookupswitch 169 #[(115, 61), (121, 27)], 27) := by decide +kernel
theorem dX10_item_28 : decode cX10_item 28 = .ok (.aload_n 0, 1) := by decide +kernel
theorem dX10_item_29 : decode cX10_item 29 = .ok (.iconst 2, 1) := by decide +kernel
theorem dX10_item_30 : decode cX10_item 30 = .ok (.bipush 8, 2) := by decide +kernel
theorem dX10_item_32 : decode cX10_item 32 = .ok (.invokevirtual 98, 3) := by decide +kernel
theorem dX10_item_35 : decode cX10_item 35 = .ok (.istore_n 2, 1) := by decide +kernel
theorem dX10_item_36 : decode cX10_item 36 = .ok (.aload_n 0, 1) := by decide +kernel
theorem dX10_item_37 : decode cX10_item 37 = .ok (.getfield 13, 3) := by decide +kernel
theorem dX10_item_40 : decode cX10_item 40 = .ok (.iconst 1, 1) := by decide +kernel
theorem dX10_item_41 : decode cX10_item 41 = .ok (.aload_n 0, 1) := by decide +kernel
theorem dX10_item_42 : decode cX10_item 42 = .ok (.getfield 87, 3) := by decide +kernel
theorem dX10_item_45 : decode cX10_item 45 = .ok (.ifCond .eq 12, 3) := by decide +kernel
theorem dX10_item_48 : decode cX10_item 48 = .ok (.aload_n 0, 1) := by decide +kernel
theorem dX10_item_49 : decode cX10_item 49 = .ok (.getfield 13, 3) := by decide +kernel
theorem dX10_item_52 : decode cX10_item 52 = .ok (.iconst 1, 1) := by decide +kernel
theorem dX10_item_53 : decode cX10_item 53 = .ok (.iaload, 1) := by decide +kernel
theorem dX10_item_54 : decode cX10_item 54 = .ok (.goto 4, 3) := by decide +kernel
theorem dX10_item_57 : decode cX10_item 57 = .ok (.iload_n 2, 1) := by decide +kernel
theorem dX10_item_58 : decode cX10_item 58 = .ok (.iastore, 1) := by decide +kernel
theorem dX10_item_59 : decode cX10_item 59 = .ok (.goto 169, 3) := by decide +kernel
theorem dX10_item_62 : decode cX10_item 62 = .ok (.bipush 9, 2) := by decide +kernel
theorem dX10_item_64 : decode cX10_item 64 = .ok (.aload_n 0, 1) := by decide +kernel
theorem dX10_item_65 : decode cX10_item 65 = .ok (.getfield 17, 3) := by decide +kernel
theorem dX10_item_68 : decode cX10_item 68 = .ok (.iconst 1, 1) := by decide +kernel
theorem dX10_item_69 : decode cX10_item 69 = .ok (.iaload, 1) := by decide +kernel
theorem dX10_item_70 : decode cX10_item 70 = .ok (.iadd, 1) := by decide +kernel
theorem dX10_item_71 : decode cX10_item 71 = .ok (.istore_n 3, 1) := by decide +kernel
theorem dX10_item_72 : decode cX10_item 72 = .ok (.aload_n 0, 1) := by decide +kernel
theorem dX10_item_73 : decode cX10_item 73 = .ok (.getfield 20, 3) := by decide +kernel
theorem dX10_item_76 : decode cX10_item 76 = .ok (.iload_n 3, 1) := by decide +kernel
theorem dX10_item_77 : decode cX10_item 77 = .ok (.aload_n 0, 1) := by decide +kernel
theorem dX10_item_78 : decode cX10_item 78 = .ok (.iconst 0, 1) := by decide +kernel
theorem dX10_item_79 : decode cX10_item 79 = .ok (.aload_n 0, 1) := by decide +kernel
theorem dX10_item_80 : decode cX10_item 80 = .ok (.getfield 13, 3) := by decide +kernel
theorem dX10_item_83 : decode cX10_item 83 = .ok (.iconst 1, 1) := by decide +kernel
theorem dX10_item_84 : decode cX10_item 84 = .ok (.iaload, 1) := by decide +kernel
theorem dX10_item_85 : decode cX10_item 85 = .ok (.iconst 1, 1) := by decide +kernel
theorem dX10_item_86 : decode cX10_item 86 = .ok (.isub, 1) := by decide +kernel
theorem dX10_item_87 : decode cX10_item 87 = .ok (.invokevirtual 98, 3) := by decide +kernel
theorem dX10_item_90 : decode cX10_item 90 = .ok (.iastore, 1) := by decide +kernel
theorem dX10_item_91 : decode cX10_item 91 = .ok (.aload_n 0, 1) := by decide +kernel
theorem dX10_item_92 : decode cX10_item 92 = .ok (.getfield 23, 3) := by decide +kernel
theorem dX10_item_95 : decode cX10_item 95 = .ok (.iload_n 3, 1) := by decide +kernel
theorem dX10_item_96 : decode cX10_item 96 = .ok (.aload_n 0, 1) := by decide +kernel
theorem dX10_item_97 : decode cX10_item 97 = .ok (.getfield 81, 3) := by decide +kernel
theorem dX10_item_100 : decode cX10_item 100 = .ok (.iastore, 1) := by decide +kernel
theorem dX10_item_101 : decode cX10_item 101 = .ok (.aload_n 0, 1) := by decide +kernel
theorem dX10_item_102 : decode cX10_item 102 = .ok (.aload_n 0, 1) := by decide +kernel
theorem dX10_item_103 : decode cX10_item 103 = .ok (.getfield 84, 3) := by decide +kernel
theorem dX10_item_106 : decode cX10_item 106 = .ok (.iconst 2, 1) := by decide +kernel
theorem dX10_item_107 : decode cX10_item 107 = .ok (.if_icmp .ne 33, 3) := by decide +kernel
theorem dX10_item_110 : decode cX10_item 110 = .ok (.aload_n 0, 1) := by decide +kernel
theorem dX10_item_111 : decode cX10_item 111 = .ok (.getfield 81, 3) := by decide +kernel
theorem dX10_item_114 : decode cX10_item 114 = .ok (.aload_n 0, 1) := by decide +kernel
theorem dX10_item_115 : decode cX10_item 115 = .ok (.getfield 13, 3) := by decide +kernel
theorem dX10_item_118 : decode cX10_item 118 = .ok (.iconst 1, 1) := by decide +kernel
theorem dX10_item_119 : decode cX10_item 119 = .ok (.iaload, 1) := by decide +kernel
theorem dX10_item_120 : decode cX10_item 120 = .ok (.if_icmp .ge 20, 3) := by decide +kernel
theorem dX10_item_123 : decode cX10_item 123 = .ok (.aload_n 0, 1) := by decide +kernel
theorem dX10_item_124 : decode cX10_item 124 = .ok (.getfield 81, 3) := by decide +kernel
theorem dX10_item_127 : decode cX10_item 127 = .ok (.aload_n 0, 1) := by decide +kernel
theorem dX10_item_128 : decode cX10_item 128 = .ok (.getfield 20, 3) := by decide +kernel
theorem dX10_item_131 : decode cX10_item 131 = .ok (.iload_n 3, 1) := by decide +kernel
theorem dX10_item_132 : decode cX10_item 132 = .ok (.iaload, 1) := by decide +kernel
theorem dX10_item_133 : decode cX10_item 133 = .ok (.if_icmp .eq 7, 3) := by decide +kernel
theorem dX10_item_136 : decode cX10_item 136 = .ok (.iconst 1, 1) := by decide +kernel
theorem dX10_item_137 : decode cX10_item 137 = .ok (.goto 4, 3) := by decide +kernel
theorem dX10_item_140 : decode cX10_item 140 = .ok (.iconst 0, 1) := by decide +kernel
theorem dX10_item_141 : decode cX10_item 141 = .ok (.invokevirtual 94, 3) := by decide +kernel
theorem dX10_item_144 : decode cX10_item 144 = .ok (.aload_n 0, 1) := by decide +kernel
theorem dX10_item_145 : decode cX10_item 145 = .ok (.getfield 26, 3) := by decide +kernel
theorem dX10_item_148 : decode cX10_item 148 = .ok (.iload_n 3, 1) := by decide +kernel
theorem dX10_item_149 : decode cX10_item 149 = .ok (.aload_n 0, 1) := by decide +kernel
theorem dX10_item_150 : decode cX10_item 150 = .ok (.iconst 0, 1) := by decide +kernel
theorem dX10_item_151 : decode cX10_item 151 = .ok (.bipush 9, 2) := by decide +kernel
theorem dX10_item_153 : decode cX10_item 153 = .ok (.invokevirtual 98, 3) := by decide +kernel
theorem dX10_item_156 : decode cX10_item 156 = .ok (.iastore, 1) := by decide +kernel
theorem dX10_item_157 : decode cX10_item 157 = .ok (.aload_n 0, 1) := by decide +kernel
theorem dX10_item_158 : decode cX10_item 158 = .ok (.getfield 17, 3) := by decide +kernel
theorem dX10_item_161 : decode cX10_item 161 = .ok (.iconst 1, 1) := by decide +kernel
theorem dX10_item_162 : decode cX10_item 162 = .ok (.dup2, 1) := by decide +kernel
theorem dX10_item_163 : decode cX10_item 163 = .ok (.iaload, 1) := by decide +kernel
theorem dX10_item_164 : decode cX10_item 164 = .ok (.iconst 1, 1) := by decide +kernel
theorem dX10_item_165 : decode cX10_item 165 = .ok (.iadd, 1) := by decide +kernel
theorem dX10_item_166 : decode cX10_item 166 = .ok (.iastore, 1) := by decide +kernel
theorem dX10_item_167 : decode cX10_item 167 = .ok (.goto 61, 3) := by decide +kernel
theorem dX10_item_170 : decode cX10_item 170 = .ok (.aload_n 0, 1) := by decide +kernel
theorem dX10_item_171 : decode cX10_item 171 = .ok (.getfield 32, 3) := by decide +kernel
theorem dX10_item_174 : decode cX10_item 174 = .ok (.bipush 6, 2) := by decide +kernel
theorem dX10_item_176 : decode cX10_item 176 = .ok (.aload_n 0, 1) := by decide +kernel
theorem dX10_item_177 : decode cX10_item 177 = .ok (.getfield 29, 3) := by decide +kernel
theorem dX10_item_180 : decode cX10_item 180 = .ok (.iconst 1, 1) := by decide +kernel
theorem dX10_item_181 : decode cX10_item 181 = .ok (.iaload, 1) := by decide +kernel
theorem dX10_item_182 : decode cX10_item 182 = .ok (.iadd, 1) := by decide +kernel
theorem dX10_item_183 : decode cX10_item 183 = .ok (.aload_n 0, 1) := by decide +kernel
theorem dX10_item_184 : decode cX10_item 184 = .ok (.iconst 0, 1) := by decide +kernel
theorem dX10_item_185 : decode cX10_item 185 = .ok (.aload_n 0, 1) := by decide +kernel
theorem dX10_item_186 : decode cX10_item 186 = .ok (.getfield 17, 3) := by decide +kernel
theorem dX10_item_189 : decode cX10_item 189 = .ok (.iconst 1, 1) := by decide +kernel
theorem dX10_item_190 : decode cX10_item 190 = .ok (.iaload, 1) := by decide +kernel
theorem dX10_item_191 : decode cX10_item 191 = .ok (.iconst 1, 1) := by decide +kernel
theorem dX10_item_192 : decode cX10_item 192 = .ok (.isub, 1) := by decide +kernel
theorem dX10_item_193 : decode cX10_item 193 = .ok (.invokevirtual 98, 3) := by decide +kernel
theorem dX10_item_196 : decode cX10_item 196 = .ok (.iastore, 1) := by decide +kernel
theorem dX10_item_197 : decode cX10_item 197 = .ok (.aload_n 0, 1) := by decide +kernel
theorem dX10_item_198 : decode cX10_item 198 = .ok (.getfield 35, 3) := by decide +kernel
theorem dX10_item_201 : decode cX10_item 201 = .ok (.bipush 6, 2) := by decide +kernel
theorem dX10_item_203 : decode cX10_item 203 = .ok (.aload_n 0, 1) := by decide +kernel
theorem dX10_item_204 : decode cX10_item 204 = .ok (.getfield 29, 3) := by decide +kernel
theorem dX10_item_207 : decode cX10_item 207 = .ok (.iconst 1, 1) := by decide +kernel
theorem dX10_item_208 : decode cX10_item 208 = .ok (.iaload, 1) := by decide +kernel
theorem dX10_item_209 : decode cX10_item 209 = .ok (.iadd, 1) := by decide +kernel
theorem dX10_item_210 : decode cX10_item 210 = .ok (.aload_n 0, 1) := by decide +kernel
theorem dX10_item_211 : decode cX10_item 211 = .ok (.iconst 1, 1) := by decide +kernel
theorem dX10_item_212 : decode cX10_item 212 = .ok (.bipush 10, 2) := by decide +kernel
theorem dX10_item_214 : decode cX10_item 214 = .ok (.invokevirtual 98, 3) := by decide +kernel
theorem dX10_item_217 : decode cX10_item 217 = .ok (.iastore, 1) := by decide +kernel
theorem dX10_item_218 : decode cX10_item 218 = .ok (.aload_n 0, 1) := by decide +kernel
theorem dX10_item_219 : decode cX10_item 219 = .ok (.getfield 29, 3) := by decide +kernel
theorem dX10_item_222 : decode cX10_item 222 = .ok (.iconst 1, 1) := by decide +kernel
theorem dX10_item_223 : decode cX10_item 223 = .ok (.dup2, 1) := by decide +kernel
theorem dX10_item_224 : decode cX10_item 224 = .ok (.iaload, 1) := by decide +kernel
theorem dX10_item_225 : decode cX10_item 225 = .ok (.iconst 1, 1) := by decide +kernel
theorem dX10_item_226 : decode cX10_item 226 = .ok (.iadd, 1) := by decide +kernel
theorem dX10_item_227 : decode cX10_item 227 = .ok (.iastore, 1) := by decide +kernel
theorem dX10_item_228 : decode cX10_item 228 = .ok (.return_, 1) := by decide +kernel
theorem dX10_may_0 : decode cX10_may 0 = .ok (.iload_n 1, 1) := by decide +kernel
theorem dX10_may_1 : decode cX10_may 1 = .ok (.lookupswitch 57 #[(115, 40), (121, 27)], 27) := by decide +kernel
theorem dX10_may_28 : decode cX10_may 28 = .ok (.aload_n 0, 1) := by decide +kernel
theorem dX10_may_29 : decode cX10_may 29 = .ok (.getfield 102, 3) := by decide +kernel
theorem dX10_may_32 : decode cX10_may 32 = .ok (.ifCond .ne 7, 3) := by decide +kernel
theorem dX10_may_35 : decode cX10_may 35 = .ok (.iconst 1, 1) := by decide +kernel
theorem dX10_may_36 : decode cX10_may 36 = .ok (.goto 4, 3) := by decide +kernel
theorem dX10_may_39 : decode cX10_may 39 = .ok (.iconst 0, 1) := by decide +kernel
theorem dX10_may_40 : decode cX10_may 40 = .ok (.ireturn, 1) := by decide +kernel
theorem dX10_may_41 : decode cX10_may 41 = .ok (.aload_n 0, 1) := by decide +kernel
theorem dX10_may_42 : decode cX10_may 42 = .ok (.getfield 17, 3) := by decide +kernel
theorem dX10_may_45 : decode cX10_may 45 = .ok (.iconst 1, 1) := by decide +kernel
theorem dX10_may_46 : decode cX10_may 46 = .ok (.iaload, 1) := by decide +kernel
theorem dX10_may_47 : decode cX10_may 47 = .ok (.bipush 9, 2) := by decide +kernel
theorem dX10_may_49 : decode cX10_may 49 = .ok (.if_icmp .ge 7, 3) := by decide +kernel
theorem dX10_may_52 : decode cX10_may 52 = .ok (.iconst 1, 1) := by decide +kernel
theorem dX10_may_53 : decode cX10_may 53 = .ok (.goto 4, 3) := by decide +kernel
theorem dX10_may_56 : decode cX10_may 56 = .ok (.iconst 0, 1) := by decide +kernel
theorem dX10_may_57 : decode cX10_may 57 = .ok (.ireturn, 1) := by decide +kernel
theorem dX10_may_58 : decode cX10_may 58 = .ok (.iload_n 1, 1) := by decide +kernel
theorem dX10_may_59 : decode cX10_may 59 = .ok (.bipush 99, 2) := by decide +kernel
theorem dX10_may_61 : decode cX10_may 61 = .ok (.if_icmp .ne 18, 3) := by decide +kernel
theorem dX10_may_64 : decode cX10_may 64 = .ok (.aload_n 0, 1) := by decide +kernel
theorem dX10_may_65 : decode cX10_may 65 = .ok (.getfield 29, 3) := by decide +kernel
theorem dX10_may_68 : decode cX10_may 68 = .ok (.iconst 1, 1) := by decide +kernel
theorem dX10_may_69 : decode cX10_may 69 = .ok (.iaload, 1) := by decide +kernel
theorem dX10_may_70 : decode cX10_may 70 = .ok (.bipush 6, 2) := by decide +kernel
theorem dX10_may_72 : decode cX10_may 72 = .ok (.if_icmp .ge 7, 3) := by decide +kernel
theorem dX10_may_75 : decode cX10_may 75 = .ok (.iconst 1, 1) := by decide +kernel
theorem dX10_may_76 : decode cX10_may 76 = .ok (.goto 4, 3) := by decide +kernel
theorem dX10_may_79 : decode cX10_may 79 = .ok (.iconst 0, 1) := by decide +kernel
theorem dX10_may_80 : decode cX10_may 80 = .ok (.ireturn, 1) := by decide +kernel
set_option maxRecDepth 20000 in
theorem ggX10_read_X10_step : GoodIn wsX10_read wsX10_step := goodIn_r _ [13, 1, 14, 8, 7, 15, 16, 17, 12, 18, 19, 20, 21, 22, 23, 45, 46, 47, 48, 49, 50, 51, 52, 53, 54, 55, 56, 57, 58, 59, 60, 61, 62, 63, 64, 65, 66, 67, 68, 69, 70] (by decide +kernel) (by decide +kernel)
set_option maxRecDepth 20000 in
theorem gX10_read_X10_step : GoodIn wsX10_read (wsV RX10 91 RX10 yX10_step wsX10_step) := goodIn_app (goodIn_of _ (by decide +kernel)) ggX10_read_X10_step
set_option maxRecDepth 20000 in
theorem ggX10_read_X10_may : GoodIn wsX10_read wsX10_may := goodIn_r _ [27, 3, 5, 6, 45, 46, 47, 48, 49, 50, 51, 52, 53, 54, 55, 56, 57, 58, 59, 60, 61, 62, 63, 64, 65, 66, 67, 68, 69, 70] (by decide +kernel) (by decide +kernel)
set_option maxRecDepth 20000 in
theorem gX10_read_X10_may : GoodIn wsX10_read (wsV RX10 105 RX10 yX10_may wsX10_may) := goodIn_app (goodIn_of _ (by decide +kernel)) ggX10_read_X10_may
set_option maxRecDepth 20000 in
theorem ggX10_read_X10_due : GoodIn wsX10_read wsX10_due := goodIn_r _ [31, 2, 9, 10, 11, 12, 13, 1, 14, 8, 7, 15, 16, 17, 18, 19, 20, 21, 22, 23, 45, 46, 47, 48, 49, 50, 51, 52, 53, 54, 55, 56, 57, 58, 59, 60, 61, 62, 63, 64, 65, 66, 67, 68, 69, 70] (by decide +kernel) (by decide +kernel)
set_option maxRecDepth 20000 in
theorem gX10_read_X10_due : GoodIn wsX10_read (wsV RX10 94 RX10 yX10_due wsX10_due) := goodIn_app (goodIn_of _ (by decide +kernel)) ggX10_read_X10_due
set_option maxRecDepth 20000 in
theorem ggX10_read_X10_item : GoodIn wsX10_read wsX10_item := goodIn_r _ [35, 4, 2, 5, 36, 37, 8, 7, 38, 39, 6, 40, 41, 42, 43, 12, 44, 21, 22, 23, 28, 29, 30, 31, 9, 10, 11, 13, 1, 14, 15, 16, 17, 18, 19, 20, 45, 46, 47, 48, 49, 50, 51, 52, 53, 54, 55, 56, 57, 58, 59, 60, 61, 62, 63, 64, 65, 66, 67, 68, 69, 70] (by decide +kernel) (by decide +kernel)
set_option maxRecDepth 20000 in
theorem gX10_read_X10_item : GoodIn wsX10_read (wsV RX10 109 RX10 yX10_item wsX10_item) := goodIn_app (goodIn_of _ (by decide +kernel)) ggX10_read_X10_item
theorem dX10_read_0 : decode cX10_read 0 = .ok (.aload_n 0, 1) := by decide +kernel
theorem dX10_read_1 : decode cX10_read 1 = .ok (.iconst 0, 1) := by decide +kernel
theorem dX10_read_2 : decode cX10_read 2 = .ok (.putfield 71, 3) := by decide +kernel
theorem dX10_read_5 : decode cX10_read 5 = .ok (.aload_n 0, 1) := by decide +kernel
theorem dX10_read_6 : decode cX10_read 6 = .ok (.iconst 0, 1) := by decide +kernel
theorem dX10_read_7 : decode cX10_read 7 = .ok (.putfield 87, 3) := by decide +kernel
theorem dX10_read_10 : decode cX10_read 10 = .ok (.aload_n 0, 1) := by decide +kernel
theorem dX10_read_11 : decode cX10_read 11 = .ok (.iconst 0, 1) := by decide +kernel
theorem dX10_read_12 : decode cX10_read 12 = .ok (.putfield 102, 3) := by decide +kernel
theorem dX10_read_15 : decode cX10_read 15 = .ok (.aload_n 0, 1) := by decide +kernel
theorem dX10_read_16 : decode cX10_read 16 = .ok (.getfield 13, 3) := by decide +kernel
theorem dX10_read_19 : decode cX10_read 19 = .ok (.iconst 1, 1) := by decide +kernel
theorem dX10_read_20 : decode cX10_read 20 = .ok (.iconst 4, 1) := by decide +kernel
theorem dX10_read_21 : decode cX10_read 21 = .ok (.iastore, 1) := by decide +kernel
theorem dX10_read_22 : decode cX10_read 22 = .ok (.aload_n 0, 1) := by decide +kernel
theorem dX10_read_23 : decode cX10_read 23 = .ok (.getfield 17, 3) := by decide +kernel
theorem dX10_read_26 : decode cX10_read 26 = .ok (.iconst 1, 1) := by decide +kernel
theorem dX10_read_27 : decode cX10_read 27 = .ok (.iconst 0, 1) := by decide +kernel
theorem dX10_read_28 : decode cX10_read 28 = .ok (.iastore, 1) := by decide +kernel
theorem dX10_read_29 : decode cX10_read 29 = .ok (.aload_n 0, 1) := by decide +kernel
theorem dX10_read_30 : decode cX10_read 30 = .ok (.getfield 29, 3) := by decide +kernel
theorem dX10_read_33 : decode cX10_read 33 = .ok (.iconst 1, 1) := by decide +kernel
theorem dX10_read_34 : decode cX10_read 34 = .ok (.iconst 0, 1) := by decide +kernel
theorem dX10_read_35 : decode cX10_read 35 = .ok (.iastore, 1) := by decide +kernel
theorem dX10_read_36 : decode cX10_read 36 = .ok (.aload_n 0, 1) := by decide +kernel
theorem dX10_read_37 : decode cX10_read 37 = .ok (.invokevirtual 91, 3) := by decide +kernel
theorem dX10_read_40 : decode cX10_read 40 = .ok (.aload_n 0, 1) := by decide +kernel
theorem dX10_read_41 : decode cX10_read 41 = .ok (.getfield 84, 3) := by decide +kernel
theorem dX10_read_44 : decode cX10_read 44 = .ok (.iconst 4, 1) := by decide +kernel
theorem dX10_read_45 : decode cX10_read 45 = .ok (.if_icmp .eq 94, 3) := by decide +kernel
theorem dX10_read_48 : decode cX10_read 48 = .ok (.aload_n 0, 1) := by decide +kernel
theorem dX10_read_49 : decode cX10_read 49 = .ok (.getfield 87, 3) := by decide +kernel
theorem dX10_read_52 : decode cX10_read 52 = .ok (.ifCond .ne 87, 3) := by decide +kernel
theorem dX10_read_55 : decode cX10_read 55 = .ok (.aload_n 0, 1) := by decide +kernel
theorem dX10_read_56 : decode cX10_read 56 = .ok (.getfield 84, 3) := by decide +kernel
theorem dX10_read_59 : decode cX10_read 59 = .ok (.iconst 1, 1) := by decide +kernel
theorem dX10_read_60 : decode cX10_read 60 = .ok (.if_icmp .ne 10, 3) := by decide +kernel
theorem dX10_read_63 : decode cX10_read 63 = .ok (.aload_n 0, 1) := by decide +kernel
theorem dX10_read_64 : decode cX10_read 64 = .ok (.getfield 81, 3) := by decide +kernel
theorem dX10_read_67 : decode cX10_read 67 = .ok (.goto 4, 3) := by decide +kernel
theorem dX10_read_70 : decode cX10_read 70 = .ok (.iconst 0, 1) := by decide +kernel
theorem dX10_read_71 : decode cX10_read 71 = .ok (.istore_n 1, 1) := by decide +kernel
theorem dX10_read_72 : decode cX10_read 72 = .ok (.aload_n 0, 1) := by decide +kernel
theorem dX10_read_73 : decode cX10_read 73 = .ok (.aload_n 0, 1) := by decide +kernel
theorem dX10_read_74 : decode cX10_read 74 = .ok (.getfield 84, 3) := by decide +kernel
theorem dX10_read_77 : decode cX10_read 77 = .ok (.iconst 1, 1) := by decide +kernel
theorem dX10_read_78 : decode cX10_read 78 = .ok (.if_icmp .ne 15, 3) := by decide +kernel
theorem dX10_read_81 : decode cX10_read 81 = .ok (.aload_n 0, 1) := by decide +kernel
theorem dX10_read_82 : decode cX10_read 82 = .ok (.iload_n 1, 1) := by decide +kernel
theorem dX10_read_83 : decode cX10_read 83 = .ok (.invokevirtual 105, 3) := by decide +kernel
theorem dX10_read_86 : decode cX10_read 86 = .ok (.ifCond .eq 7, 3) := by decide +kernel
theorem dX10_read_89 : decode cX10_read 89 = .ok (.iconst 1, 1) := by decide +kernel
theorem dX10_read_90 : decode cX10_read 90 = .ok (.goto 4, 3) := by decide +kernel
theorem dX10_read_93 : decode cX10_read 93 = .ok (.iconst 0, 1) := by decide +kernel
theorem dX10_read_94 : decode cX10_read 94 = .ok (.invokevirtual 94, 3) := by decide +kernel
theorem dX10_read_97 : decode cX10_read 97 = .ok (.aload_n 0, 1) := by decide +kernel
theorem dX10_read_98 : decode cX10_read 98 = .ok (.getfield 87, 3) := by decide +kernel
theorem dX10_read_101 : decode cX10_read 101 = .ok (.ifCond .ne 35, 3) := by decide +kernel
theorem dX10_read_104 : decode cX10_read 104 = .ok (.aload_n 0, 1) := by decide +kernel
theorem dX10_read_105 : decode cX10_read 105 = .ok (.iload_n 1, 1) := by decide +kernel
theorem dX10_read_106 : decode cX10_read 106 = .ok (.invokevirtual 109, 3) := by decide +kernel
theorem dX10_read_109 : decode cX10_read 109 = .ok (.aload_n 0, 1) := by decide +kernel
theorem dX10_read_110 : decode cX10_read 110 = .ok (.aload_n 0, 1) := by decide +kernel
theorem dX10_read_111 : decode cX10_read 111 = .ok (.getfield 84, 3) := by decide +kernel
theorem dX10_read_114 : decode cX10_read 114 = .ok (.iconst 3, 1) := by decide +kernel
theorem dX10_read_115 : decode cX10_read 115 = .ok (.if_icmp .ne 7, 3) := by decide +kernel
theorem dX10_read_118 : decode cX10_read 118 = .ok (.iconst 1, 1) := by decide +kernel
theorem dX10_read_119 : decode cX10_read 119 = .ok (.goto 4, 3) := by decide +kernel
theorem dX10_read_122 : decode cX10_read 122 = .ok (.iconst 0, 1) := by decide +kernel
theorem dX10_read_123 : decode cX10_read 123 = .ok (.invokevirtual 94, 3) := by decide +kernel
theorem dX10_read_126 : decode cX10_read 126 = .ok (.aload_n 0, 1) := by decide +kernel
theorem dX10_read_127 : decode cX10_read 127 = .ok (.dup, 1) := by decide +kernel
theorem dX10_read_128 : decode cX10_read 128 = .ok (.getfield 102, 3) := by decide +kernel
theorem dX10_read_131 : decode cX10_read 131 = .ok (.iconst 1, 1) := by decide +kernel
theorem dX10_read_132 : decode cX10_read 132 = .ok (.iadd, 1) := by decide +kernel
theorem dX10_read_133 : decode cX10_read 133 = .ok (.putfield 102, 3) := by decide +kernel
theorem dX10_read_136 : decode cX10_read 136 = .ok (.goto (-96), 3) := by decide +kernel
theorem dX10_read_139 : decode cX10_read 139 = .ok (.return_, 1) := by decide +kernel
set_option maxRecDepth 20000 in
theorem ggX10_town_X10_read : GoodIn wsX10_town wsX10_read := goodIn_r _ [21, 22, 1, 16, 3, 4, 5, 23, 24, 25, 26, 27, 20, 28, 2, 29, 30, 31, 32, 15, 33, 34, 35, 36, 37, 38, 39, 40, 41, 42, 43, 44, 45, 46, 47, 48, 7, 8, 9, 10, 11, 49, 50, 51, 52, 53, 54, 55, 56, 57, 58, 59, 60, 61, 62, 63, 64, 65, 66, 67, 68, 69, 70, 71, 72, 73, 74, 75, 76, 77, 78] (by decide +kernel) (by decide +kernel)
set_option maxRecDepth 20000 in
theorem gX10_town_X10_read : GoodIn wsX10_town (wsV RX10 113 RX10 yX10_read wsX10_read) := goodIn_app (goodIn_of _ (by decide +kernel)) ggX10_town_X10_read
theorem dX10_town_0 : decode cX10_town 0 = .ok (.aload_n 0, 1) := by decide +kernel
theorem dX10_town_1 : decode cX10_town 1 = .ok (.invokevirtual 113, 3) := by decide +kernel
theorem dX10_town_4 : decode cX10_town 4 = .ok (.aload_n 0, 1) := by decide +kernel
theorem dX10_town_5 : decode cX10_town 5 = .ok (.getfield 87, 3) := by decide +kernel
theorem dX10_town_8 : decode cX10_town 8 = .ok (.ifCond .eq 11, 3) := by decide +kernel
theorem dX10_town_11 : decode cX10_town 11 = .ok (.bipush (-10), 2) := by decide +kernel
theorem dX10_town_13 : decode cX10_town 13 = .ok (.aload_n 0, 1) := by decide +kernel
theorem dX10_town_14 : decode cX10_town 14 = .ok (.getfield 78, 3) := by decide +kernel
theorem dX10_town_17 : decode cX10_town 17 = .ok (.isub, 1) := by decide +kernel
theorem dX10_town_18 : decode cX10_town 18 = .ok (.ireturn, 1) := by decide +kernel
theorem dX10_town_19 : decode cX10_town 19 = .ok (.aload_n 0, 1) := by decide +kernel
theorem dX10_town_20 : decode cX10_town 20 = .ok (.getfield 13, 3) := by decide +kernel
theorem dX10_town_23 : decode cX10_town 23 = .ok (.iconst 0, 1) := by decide +kernel
theorem dX10_town_24 : decode cX10_town 24 = .ok (.aload_n 0, 1) := by decide +kernel
theorem dX10_town_25 : decode cX10_town 25 = .ok (.getfield 13, 3) := by decide +kernel
theorem dX10_town_28 : decode cX10_town 28 = .ok (.iconst 1, 1) := by decide +kernel
theorem dX10_town_29 : decode cX10_town 29 = .ok (.iaload, 1) := by decide +kernel
theorem dX10_town_30 : decode cX10_town 30 = .ok (.iastore, 1) := by decide +kernel
theorem dX10_town_31 : decode cX10_town 31 = .ok (.aload_n 0, 1) := by decide +kernel
theorem dX10_town_32 : decode cX10_town 32 = .ok (.getfield 17, 3) := by decide +kernel
theorem dX10_town_35 : decode cX10_town 35 = .ok (.iconst 0, 1) := by decide +kernel
theorem dX10_town_36 : decode cX10_town 36 = .ok (.aload_n 0, 1) := by decide +kernel
theorem dX10_town_37 : decode cX10_town 37 = .ok (.getfield 17, 3) := by decide +kernel
theorem dX10_town_40 : decode cX10_town 40 = .ok (.iconst 1, 1) := by decide +kernel
theorem dX10_town_41 : decode cX10_town 41 = .ok (.iaload, 1) := by decide +kernel
theorem dX10_town_42 : decode cX10_town 42 = .ok (.iastore, 1) := by decide +kernel
theorem dX10_town_43 : decode cX10_town 43 = .ok (.aload_n 0, 1) := by decide +kernel
theorem dX10_town_44 : decode cX10_town 44 = .ok (.getfield 29, 3) := by decide +kernel
theorem dX10_town_47 : decode cX10_town 47 = .ok (.iconst 0, 1) := by decide +kernel
theorem dX10_town_48 : decode cX10_town 48 = .ok (.aload_n 0, 1) := by decide +kernel
theorem dX10_town_49 : decode cX10_town 49 = .ok (.getfield 29, 3) := by decide +kernel
theorem dX10_town_52 : decode cX10_town 52 = .ok (.iconst 1, 1) := by decide +kernel
theorem dX10_town_53 : decode cX10_town 53 = .ok (.iaload, 1) := by decide +kernel
theorem dX10_town_54 : decode cX10_town 54 = .ok (.iastore, 1) := by decide +kernel
theorem dX10_town_55 : decode cX10_town 55 = .ok (.iconst 0, 1) := by decide +kernel
theorem dX10_town_56 : decode cX10_town 56 = .ok (.istore_n 1, 1) := by decide +kernel
theorem dX10_town_57 : decode cX10_town 57 = .ok (.iload_n 1, 1) := by decide +kernel
theorem dX10_town_58 : decode cX10_town 58 = .ok (.bipush 34, 2) := by decide +kernel
theorem dX10_town_60 : decode cX10_town 60 = .ok (.if_icmp .ge 16, 3) := by decide +kernel
theorem dX10_town_63 : decode cX10_town 63 = .ok (.aload_n 0, 1) := by decide +kernel
theorem dX10_town_64 : decode cX10_town 64 = .ok (.getfield 38, 3) := by decide +kernel
theorem dX10_town_67 : decode cX10_town 67 = .ok (.iload_n 1, 1) := by decide +kernel
theorem dX10_town_68 : decode cX10_town 68 = .ok (.iconst 0, 1) := by decide +kernel
theorem dX10_town_69 : decode cX10_town 69 = .ok (.iastore, 1) := by decide +kernel
theorem dX10_town_70 : decode cX10_town 70 = .ok (.iinc 1 1, 3) := by decide +kernel
theorem dX10_town_73 : decode cX10_town 73 = .ok (.goto (-16), 3) := by decide +kernel
theorem dX10_town_76 : decode cX10_town 76 = .ok (.iconst 0, 1) := by decide +kernel
theorem dX10_town_77 : decode cX10_town 77 = .ok (.istore_n 1, 1) := by decide +kernel
theorem dX10_town_78 : decode cX10_town 78 = .ok (.iload_n 1, 1) := by decide +kernel
theorem dX10_town_79 : decode cX10_town 79 = .ok (.bipush 9, 2) := by decide +kernel
theorem dX10_town_81 : decode cX10_town 81 = .ok (.if_icmp .ge 70, 3) := by decide +kernel
theorem dX10_town_84 : decode cX10_town 84 = .ok (.aload_n 0, 1) := by decide +kernel
theorem dX10_town_85 : decode cX10_town 85 = .ok (.getfield 20, 3) := by decide +kernel
theorem dX10_town_88 : decode cX10_town 88 = .ok (.iload_n 1, 1) := by decide +kernel
theorem dX10_town_89 : decode cX10_town 89 = .ok (.aload_n 0, 1) := by decide +kernel
theorem dX10_town_90 : decode cX10_town 90 = .ok (.getfield 20, 3) := by decide +kernel
theorem dX10_town_93 : decode cX10_town 93 = .ok (.bipush 9, 2) := by decide +kernel
theorem dX10_town_95 : decode cX10_town 95 = .ok (.iload_n 1, 1) := by decide +kernel
theorem dX10_town_96 : decode cX10_town 96 = .ok (.iadd, 1) := by decide +kernel
theorem dX10_town_97 : decode cX10_town 97 = .ok (.iaload, 1) := by decide +kernel
theorem dX10_town_98 : decode cX10_town 98 = .ok (.iastore, 1) := by decide +kernel
theorem dX10_town_99 : decode cX10_town 99 = .ok (.aload_n 0, 1) := by decide +kernel
theorem dX10_town_100 : decode cX10_town 100 = .ok (.getfield 23, 3) := by decide +kernel
theorem dX10_town_103 : decode cX10_town 103 = .ok (.iload_n 1, 1) := by decide +kernel
theorem dX10_town_104 : decode cX10_town 104 = .ok (.aload_n 0, 1) := by decide +kernel
theorem dX10_town_105 : decode cX10_town 105 = .ok (.getfield 23, 3) := by decide +kernel
theorem dX10_town_108 : decode cX10_town 108 = .ok (.bipush 9, 2) := by decide +kernel
theorem dX10_town_110 : decode cX10_town 110 = .ok (.iload_n 1, 1) := by decide +kernel
theorem dX10_town_111 : decode cX10_town 111 = .ok (.iadd, 1) := by decide +kernel
theorem dX10_town_112 : decode cX10_town 112 = .ok (.iaload, 1) := by decide +kernel
theorem dX10_town_113 : decode cX10_town 113 = .ok (.iastore, 1) := by decide +kernel
theorem dX10_town_114 : decode cX10_town 114 = .ok (.aload_n 0, 1) := by decide +kernel
theorem dX10_town_115 : decode cX10_town 115 = .ok (.getfield 38, 3) := by decide +kernel
theorem dX10_town_118 : decode cX10_town 118 = .ok (.iconst 1, 1) := by decide +kernel
theorem dX10_town_119 : decode cX10_town 119 = .ok (.iload_n 1, 1) := by decide +kernel
theorem dX10_town_120 : decode cX10_town 120 = .ok (.iadd, 1) := by decide +kernel
theorem dX10_town_121 : decode cX10_town 121 = .ok (.iload_n 1, 1) := by decide +kernel
theorem dX10_town_122 : decode cX10_town 122 = .ok (.aload_n 0, 1) := by decide +kernel
theorem dX10_town_123 : decode cX10_town 123 = .ok (.getfield 17, 3) := by decide +kernel
theorem dX10_town_126 : decode cX10_town 126 = .ok (.iconst 0, 1) := by decide +kernel
theorem dX10_town_127 : decode cX10_town 127 = .ok (.iaload, 1) := by decide +kernel
theorem dX10_town_128 : decode cX10_town 128 = .ok (.if_icmp .ge 15, 3) := by decide +kernel
theorem dX10_town_131 : decode cX10_town 131 = .ok (.aload_n 0, 1) := by decide +kernel
theorem dX10_town_132 : decode cX10_town 132 = .ok (.getfield 26, 3) := by decide +kernel
theorem dX10_town_135 : decode cX10_town 135 = .ok (.bipush 9, 2) := by decide +kernel
theorem dX10_town_137 : decode cX10_town 137 = .ok (.iload_n 1, 1) := by decide +kernel
theorem dX10_town_138 : decode cX10_town 138 = .ok (.iadd, 1) := by decide +kernel
theorem dX10_town_139 : decode cX10_town 139 = .ok (.iaload, 1) := by decide +kernel
theorem dX10_town_140 : decode cX10_town 140 = .ok (.goto 4, 3) := by decide +kernel
theorem dX10_town_143 : decode cX10_town 143 = .ok (.iconst 0, 1) := by decide +kernel
theorem dX10_town_144 : decode cX10_town 144 = .ok (.iastore, 1) := by decide +kernel
theorem dX10_town_145 : decode cX10_town 145 = .ok (.iinc 1 1, 3) := by decide +kernel
theorem dX10_town_148 : decode cX10_town 148 = .ok (.goto (-70), 3) := by decide +kernel
theorem dX10_town_151 : decode cX10_town 151 = .ok (.iconst 0, 1) := by decide +kernel
theorem dX10_town_152 : decode cX10_town 152 = .ok (.istore_n 1, 1) := by decide +kernel
theorem dX10_town_153 : decode cX10_town 153 = .ok (.iload_n 1, 1) := by decide +kernel
theorem dX10_town_154 : decode cX10_town 154 = .ok (.bipush 6, 2) := by decide +kernel
theorem dX10_town_156 : decode cX10_town 156 = .ok (.if_icmp .ge 56, 3) := by decide +kernel
theorem dX10_town_159 : decode cX10_town 159 = .ok (.aload_n 0, 1) := by decide +kernel
theorem dX10_town_160 : decode cX10_town 160 = .ok (.getfield 38, 3) := by decide +kernel
theorem dX10_town_163 : decode cX10_town 163 = .ok (.bipush 28, 2) := by decide +kernel
theorem dX10_town_165 : decode cX10_town 165 = .ok (.iload_n 1, 1) := by decide +kernel
theorem dX10_town_166 : decode cX10_town 166 = .ok (.iadd, 1) := by decide +kernel
theorem dX10_town_167 : decode cX10_town 167 = .ok (.iload_n 1, 1) := by decide +kernel
theorem dX10_town_168 : decode cX10_town 168 = .ok (.aload_n 0, 1) := by decide +kernel
theorem dX10_town_169 : decode cX10_town 169 = .ok (.getfield 29, 3) := by decide +kernel
theorem dX10_town_172 : decode cX10_town 172 = .ok (.iconst 0, 1) := by decide +kernel
theorem dX10_town_173 : decode cX10_town 173 = .ok (.iaload, 1) := by decide +kernel
theorem dX10_town_174 : decode cX10_town 174 = .ok (.if_icmp .ge 15, 3) := by decide +kernel
theorem dX10_town_177 : decode cX10_town 177 = .ok (.aload_n 0, 1) := by decide +kernel
theorem dX10_town_178 : decode cX10_town 178 = .ok (.getfield 32, 3) := by decide +kernel
theorem dX10_town_181 : decode cX10_town 181 = .ok (.bipush 6, 2) := by decide +kernel
theorem dX10_town_183 : decode cX10_town 183 = .ok (.iload_n 1, 1) := by decide +kernel
theorem dX10_town_184 : decode cX10_town 184 = .ok (.iadd, 1) := by decide +kernel
theorem dX10_town_185 : decode cX10_town 185 = .ok (.iaload, 1) := by decide +kernel
theorem dX10_town_186 : decode cX10_town 186 = .ok (.goto 4, 3) := by decide +kernel
theorem dX10_town_189 : decode cX10_town 189 = .ok (.iconst 0, 1) := by decide +kernel
theorem dX10_town_190 : decode cX10_town 190 = .ok (.iastore, 1) := by decide +kernel
theorem dX10_town_191 : decode cX10_town 191 = .ok (.aload_n 0, 1) := by decide +kernel
theorem dX10_town_192 : decode cX10_town 192 = .ok (.getfield 35, 3) := by decide +kernel
theorem dX10_town_195 : decode cX10_town 195 = .ok (.iload_n 1, 1) := by decide +kernel
theorem dX10_town_196 : decode cX10_town 196 = .ok (.aload_n 0, 1) := by decide +kernel
theorem dX10_town_197 : decode cX10_town 197 = .ok (.getfield 35, 3) := by decide +kernel
theorem dX10_town_200 : decode cX10_town 200 = .ok (.bipush 6, 2) := by decide +kernel
theorem dX10_town_202 : decode cX10_town 202 = .ok (.iload_n 1, 1) := by decide +kernel
theorem dX10_town_203 : decode cX10_town 203 = .ok (.iadd, 1) := by decide +kernel
theorem dX10_town_204 : decode cX10_town 204 = .ok (.iaload, 1) := by decide +kernel
theorem dX10_town_205 : decode cX10_town 205 = .ok (.iastore, 1) := by decide +kernel
theorem dX10_town_206 : decode cX10_town 206 = .ok (.iinc 1 1, 3) := by decide +kernel
theorem dX10_town_209 : decode cX10_town 209 = .ok (.goto (-56), 3) := by decide +kernel
theorem dX10_town_212 : decode cX10_town 212 = .ok (.aload_n 0, 1) := by decide +kernel
theorem dX10_town_213 : decode cX10_town 213 = .ok (.getfield 41, 3) := by decide +kernel
theorem dX10_town_216 : decode cX10_town 216 = .ok (.iconst 0, 1) := by decide +kernel
theorem dX10_town_217 : decode cX10_town 217 = .ok (.iconst 0, 1) := by decide +kernel
theorem dX10_town_218 : decode cX10_town 218 = .ok (.iastore, 1) := by decide +kernel
theorem dX10_town_219 : decode cX10_town 219 = .ok (.aload_n 0, 1) := by decide +kernel
theorem dX10_town_220 : decode cX10_town 220 = .ok (.getfield 50, 3) := by decide +kernel
theorem dX10_town_223 : decode cX10_town 223 = .ok (.iconst 0, 1) := by decide +kernel
theorem dX10_town_224 : decode cX10_town 224 = .ok (.iconst 0, 1) := by decide +kernel
theorem dX10_town_225 : decode cX10_town 225 = .ok (.bastore, 1) := by decide +kernel
theorem dX10_town_226 : decode cX10_town 226 = .ok (.aload_n 0, 1) := by decide +kernel
theorem dX10_town_227 : decode cX10_town 227 = .ok (.getfield 50, 3) := by decide +kernel
theorem dX10_town_230 : decode cX10_town 230 = .ok (.iconst 1, 1) := by decide +kernel
theorem dX10_town_231 : decode cX10_town 231 = .ok (.iconst 0, 1) := by decide +kernel
theorem dX10_town_232 : decode cX10_town 232 = .ok (.bastore, 1) := by decide +kernel
theorem dX10_town_233 : decode cX10_town 233 = .ok (.aload_n 0, 1) := by decide +kernel
theorem dX10_town_234 : decode cX10_town 234 = .ok (.iconst 0, 1) := by decide +kernel
theorem dX10_town_235 : decode cX10_town 235 = .ok (.putfield 116, 3) := by decide +kernel
theorem dX10_town_238 : decode cX10_town 238 = .ok (.aload_n 0, 1) := by decide +kernel
theorem dX10_town_239 : decode cX10_town 239 = .ok (.iconst 0, 1) := by decide +kernel
theorem dX10_town_240 : decode cX10_town 240 = .ok (.putfield 67, 3) := by decide +kernel
theorem dX10_town_243 : decode cX10_town 243 = .ok (.aload_n 0, 1) := by decide +kernel
theorem dX10_town_244 : decode cX10_town 244 = .ok (.getfield 102, 3) := by decide +kernel
theorem dX10_town_247 : decode cX10_town 247 = .ok (.ireturn, 1) := by decide +kernel
set_option maxRecDepth 20000 in
theorem ggX10_isYard_X10_in : GoodIn wsX10_isYard wsX10_in := goodIn_r _ [5] (by decide +kernel) (by decide +kernel)
set_option maxRecDepth 20000 in
theorem gX10_isYard_X10_in : GoodIn wsX10_isYard (va_wsS RX10 63 yX10_in wsX10_in) := goodIn_app (goodIn_of _ (by decide +kernel)) ggX10_isYard_X10_in
theorem dX10_isYard_0 : decode cX10_isYard 0 = .ok (.iload_n 1, 1) := by decide +kernel
theorem dX10_isYard_1 : decode cX10_isYard 1 = .ok (.iconst 0, 1) := by decide +kernel
theorem dX10_isYard_2 : decode cX10_isYard 2 = .ok (.aload_n 0, 1) := by decide +kernel
theorem dX10_isYard_3 : decode cX10_isYard 3 = .ok (.getfield 13, 3) := by decide +kernel
theorem dX10_isYard_6 : decode cX10_isYard 6 = .ok (.iconst 0, 1) := by decide +kernel
theorem dX10_isYard_7 : decode cX10_isYard 7 = .ok (.iaload, 1) := by decide +kernel
theorem dX10_isYard_8 : decode cX10_isYard 8 = .ok (.iconst 1, 1) := by decide +kernel
theorem dX10_isYard_9 : decode cX10_isYard 9 = .ok (.isub, 1) := by decide +kernel
theorem dX10_isYard_10 : decode cX10_isYard 10 = .ok (.invokestatic 63, 3) := by decide +kernel
theorem dX10_isYard_13 : decode cX10_isYard 13 = .ok (.ireturn, 1) := by decide +kernel
set_option maxRecDepth 20000 in
theorem ggX10_areTwo_X10_isYard : GoodIn wsX10_areTwo wsX10_isYard := goodIn_r _ [5, 6, 7, 8, 4, 9, 10, 11, 12, 13, 14, 15, 16, 17, 18, 19, 20, 21, 22, 23, 24, 25, 26, 27, 28, 29, 30, 31, 32, 33, 34, 35] (by decide +kernel) (by decide +kernel)
set_option maxRecDepth 20000 in
theorem gX10_areTwo_X10_isYard : GoodIn wsX10_areTwo (wsV RX10 119 RX10 yX10_isYard wsX10_isYard) := goodIn_app (goodIn_of _ (by decide +kernel)) ggX10_areTwo_X10_isYard
theorem dX10_areTwo_0 : decode cX10_areTwo 0 = .ok (.aload_n 0, 1) := by decide +kernel
theorem dX10_areTwo_1 : decode cX10_areTwo 1 = .ok (.iload_n 1, 1) := by decide +kernel
theorem dX10_areTwo_2 : decode cX10_areTwo 2 = .ok (.invokevirtual 119, 3) := by decide +kernel
theorem dX10_areTwo_5 : decode cX10_areTwo 5 = .ok (.ifCond .eq 20, 3) := by decide +kernel
theorem dX10_areTwo_8 : decode cX10_areTwo 8 = .ok (.aload_n 0, 1) := by decide +kernel
theorem dX10_areTwo_9 : decode cX10_areTwo 9 = .ok (.iload_n 2, 1) := by decide +kernel
theorem dX10_areTwo_10 : decode cX10_areTwo 10 = .ok (.invokevirtual 119, 3) := by decide +kernel
theorem dX10_areTwo_13 : decode cX10_areTwo 13 = .ok (.ifCond .eq 12, 3) := by decide +kernel
theorem dX10_areTwo_16 : decode cX10_areTwo 16 = .ok (.iload_n 1, 1) := by decide +kernel
theorem dX10_areTwo_17 : decode cX10_areTwo 17 = .ok (.iload_n 2, 1) := by decide +kernel
theorem dX10_areTwo_18 : decode cX10_areTwo 18 = .ok (.if_icmp .eq 7, 3) := by decide +kernel
theorem dX10_areTwo_21 : decode cX10_areTwo 21 = .ok (.iconst 1, 1) := by decide +kernel
theorem dX10_areTwo_22 : decode cX10_areTwo 22 = .ok (.goto 4, 3) := by decide +kernel
theorem dX10_areTwo_25 : decode cX10_areTwo 25 = .ok (.iconst 0, 1) := by decide +kernel
theorem dX10_areTwo_26 : decode cX10_areTwo 26 = .ok (.ireturn, 1) := by decide +kernel
set_option maxRecDepth 20000 in
theorem ggX10_isStreet_X10_in : GoodIn wsX10_isStreet wsX10_in := goodIn_r _ [5] (by decide +kernel) (by decide +kernel)
set_option maxRecDepth 20000 in
theorem gX10_isStreet_X10_in : GoodIn wsX10_isStreet (va_wsS RX10 63 yX10_in wsX10_in) := goodIn_app (goodIn_of _ (by decide +kernel)) ggX10_isStreet_X10_in
theorem dX10_isStreet_0 : decode cX10_isStreet 0 = .ok (.iload_n 1, 1) := by decide +kernel
theorem dX10_isStreet_1 : decode cX10_isStreet 1 = .ok (.iconst 0, 1) := by decide +kernel
theorem dX10_isStreet_2 : decode cX10_isStreet 2 = .ok (.aload_n 0, 1) := by decide +kernel
theorem dX10_isStreet_3 : decode cX10_isStreet 3 = .ok (.getfield 17, 3) := by decide +kernel
theorem dX10_isStreet_6 : decode cX10_isStreet 6 = .ok (.iconst 0, 1) := by decide +kernel
theorem dX10_isStreet_7 : decode cX10_isStreet 7 = .ok (.iaload, 1) := by decide +kernel
theorem dX10_isStreet_8 : decode cX10_isStreet 8 = .ok (.iconst 1, 1) := by decide +kernel
theorem dX10_isStreet_9 : decode cX10_isStreet 9 = .ok (.isub, 1) := by decide +kernel
theorem dX10_isStreet_10 : decode cX10_isStreet 10 = .ok (.invokestatic 63, 3) := by decide +kernel
theorem dX10_isStreet_13 : decode cX10_isStreet 13 = .ok (.ireturn, 1) := by decide +kernel
set_option maxRecDepth 20000 in
theorem ggX10_isPerson_X10_in : GoodIn wsX10_isPerson wsX10_in := goodIn_r _ [5] (by decide +kernel) (by decide +kernel)
set_option maxRecDepth 20000 in
theorem gX10_isPerson_X10_in : GoodIn wsX10_isPerson (va_wsS RX10 63 yX10_in wsX10_in) := goodIn_app (goodIn_of _ (by decide +kernel)) ggX10_isPerson_X10_in
theorem dX10_isPerson_0 : decode cX10_isPerson 0 = .ok (.iload_n 1, 1) := by decide +kernel
theorem dX10_isPerson_1 : decode cX10_isPerson 1 = .ok (.iconst 0, 1) := by decide +kernel
theorem dX10_isPerson_2 : decode cX10_isPerson 2 = .ok (.aload_n 0, 1) := by decide +kernel
theorem dX10_isPerson_3 : decode cX10_isPerson 3 = .ok (.getfield 29, 3) := by decide +kernel
theorem dX10_isPerson_6 : decode cX10_isPerson 6 = .ok (.iconst 0, 1) := by decide +kernel
theorem dX10_isPerson_7 : decode cX10_isPerson 7 = .ok (.iaload, 1) := by decide +kernel
theorem dX10_isPerson_8 : decode cX10_isPerson 8 = .ok (.iconst 1, 1) := by decide +kernel
theorem dX10_isPerson_9 : decode cX10_isPerson 9 = .ok (.isub, 1) := by decide +kernel
theorem dX10_isPerson_10 : decode cX10_isPerson 10 = .ok (.invokestatic 63, 3) := by decide +kernel
theorem dX10_isPerson_13 : decode cX10_isPerson 13 = .ok (.ireturn, 1) := by decide +kernel
theorem dX10_widthOf_0 : decode cX10_widthOf 0 = .ok (.aload_n 0, 1) := by decide +kernel
theorem dX10_widthOf_1 : decode cX10_widthOf 1 = .ok (.getfield 38, 3) := by decide +kernel
theorem dX10_widthOf_4 : decode cX10_widthOf 4 = .ok (.iconst 1, 1) := by decide +kernel
theorem dX10_widthOf_5 : decode cX10_widthOf 5 = .ok (.iload_n 1, 1) := by decide +kernel
theorem dX10_widthOf_6 : decode cX10_widthOf 6 = .ok (.iadd, 1) := by decide +kernel
theorem dX10_widthOf_7 : decode cX10_widthOf 7 = .ok (.iaload, 1) := by decide +kernel
theorem dX10_widthOf_8 : decode cX10_widthOf 8 = .ok (.istore_n 2, 1) := by decide +kernel
theorem dX10_widthOf_9 : decode cX10_widthOf 9 = .ok (.aload_n 0, 1) := by decide +kernel
theorem dX10_widthOf_10 : decode cX10_widthOf 10 = .ok (.getfield 38, 3) := by decide +kernel
theorem dX10_widthOf_13 : decode cX10_widthOf 13 = .ok (.iconst 0, 1) := by decide +kernel
theorem dX10_widthOf_14 : decode cX10_widthOf 14 = .ok (.iaload, 1) := by decide +kernel
theorem dX10_widthOf_15 : decode cX10_widthOf 15 = .ok (.iconst 1, 1) := by decide +kernel
theorem dX10_widthOf_16 : decode cX10_widthOf 16 = .ok (.if_icmp .ne 7, 3) := by decide +kernel
theorem dX10_widthOf_19 : decode cX10_widthOf 19 = .ok (.iconst 0, 1) := by decide +kernel
theorem dX10_widthOf_20 : decode cX10_widthOf 20 = .ok (.goto 12, 3) := by decide +kernel
theorem dX10_widthOf_23 : decode cX10_widthOf 23 = .ok (.aload_n 0, 1) := by decide +kernel
theorem dX10_widthOf_24 : decode cX10_widthOf 24 = .ok (.getfield 38, 3) := by decide +kernel
theorem dX10_widthOf_27 : decode cX10_widthOf 27 = .ok (.bipush 19, 2) := by decide +kernel
theorem dX10_widthOf_29 : decode cX10_widthOf 29 = .ok (.iload_n 1, 1) := by decide +kernel
theorem dX10_widthOf_30 : decode cX10_widthOf 30 = .ok (.iadd, 1) := by decide +kernel
theorem dX10_widthOf_31 : decode cX10_widthOf 31 = .ok (.iaload, 1) := by decide +kernel
theorem dX10_widthOf_32 : decode cX10_widthOf 32 = .ok (.istore_n 3, 1) := by decide +kernel
theorem dX10_widthOf_33 : decode cX10_widthOf 33 = .ok (.iconst 1, 1) := by decide +kernel
theorem dX10_widthOf_34 : decode cX10_widthOf 34 = .ok (.iload_n 2, 1) := by decide +kernel
theorem dX10_widthOf_35 : decode cX10_widthOf 35 = .ok (.iload_n 3, 1) := by decide +kernel
theorem dX10_widthOf_36 : decode cX10_widthOf 36 = .ok (.if_icmp .le 7, 3) := by decide +kernel
theorem dX10_widthOf_39 : decode cX10_widthOf 39 = .ok (.iload_n 2, 1) := by decide +kernel
theorem dX10_widthOf_40 : decode cX10_widthOf 40 = .ok (.goto 4, 3) := by decide +kernel
theorem dX10_widthOf_43 : decode cX10_widthOf 43 = .ok (.iload_n 3, 1) := by decide +kernel
theorem dX10_widthOf_44 : decode cX10_widthOf 44 = .ok (.iadd, 1) := by decide +kernel
theorem dX10_widthOf_45 : decode cX10_widthOf 45 = .ok (.ireturn, 1) := by decide +kernel
set_option maxRecDepth 20000 in
theorem ggX10_allWidths_X10_widthOf : GoodIn wsX10_allWidths wsX10_widthOf := goodIn_r _ [6, 7, 8, 9, 10, 11, 12, 13, 14, 15, 16, 17, 18, 19, 20, 21, 22, 23, 24, 25, 26, 27, 28, 29, 30, 31, 32, 33] (by decide +kernel) (by decide +kernel)
set_option maxRecDepth 20000 in
theorem gX10_allWidths_X10_widthOf : GoodIn wsX10_allWidths (wsV RX10 122 RX10 yX10_widthOf wsX10_widthOf) := goodIn_app (goodIn_of _ (by decide +kernel)) ggX10_allWidths_X10_widthOf
theorem dX10_allWidths_0 : decode cX10_allWidths 0 = .ok (.iconst 0, 1) := by decide +kernel
theorem dX10_allWidths_1 : decode cX10_allWidths 1 = .ok (.istore_n 1, 1) := by decide +kernel
theorem dX10_allWidths_2 : decode cX10_allWidths 2 = .ok (.iconst 0, 1) := by decide +kernel
theorem dX10_allWidths_3 : decode cX10_allWidths 3 = .ok (.istore_n 2, 1) := by decide +kernel
theorem dX10_allWidths_4 : decode cX10_allWidths 4 = .ok (.iload_n 2, 1) := by decide +kernel
theorem dX10_allWidths_5 : decode cX10_allWidths 5 = .ok (.aload_n 0, 1) := by decide +kernel
theorem dX10_allWidths_6 : decode cX10_allWidths 6 = .ok (.getfield 17, 3) := by decide +kernel
theorem dX10_allWidths_9 : decode cX10_allWidths 9 = .ok (.iconst 0, 1) := by decide +kernel
theorem dX10_allWidths_10 : decode cX10_allWidths 10 = .ok (.iaload, 1) := by decide +kernel
theorem dX10_allWidths_11 : decode cX10_allWidths 11 = .ok (.if_icmp .ge 17, 3) := by decide +kernel
theorem dX10_allWidths_14 : decode cX10_allWidths 14 = .ok (.iload_n 1, 1) := by decide +kernel
theorem dX10_allWidths_15 : decode cX10_allWidths 15 = .ok (.aload_n 0, 1) := by decide +kernel
theorem dX10_allWidths_16 : decode cX10_allWidths 16 = .ok (.iload_n 2, 1) := by decide +kernel
theorem dX10_allWidths_17 : decode cX10_allWidths 17 = .ok (.invokevirtual 122, 3) := by decide +kernel
theorem dX10_allWidths_20 : decode cX10_allWidths 20 = .ok (.iadd, 1) := by decide +kernel
theorem dX10_allWidths_21 : decode cX10_allWidths 21 = .ok (.istore_n 1, 1) := by decide +kernel
theorem dX10_allWidths_22 : decode cX10_allWidths 22 = .ok (.iinc 2 1, 3) := by decide +kernel
theorem dX10_allWidths_25 : decode cX10_allWidths 25 = .ok (.goto (-21), 3) := by decide +kernel
theorem dX10_allWidths_28 : decode cX10_allWidths 28 = .ok (.iload_n 1, 1) := by decide +kernel
theorem dX10_allWidths_29 : decode cX10_allWidths 29 = .ok (.ireturn, 1) := by decide +kernel
theorem dX10_livingIn_0 : decode cX10_livingIn 0 = .ok (.iconst 0, 1) := by decide +kernel
theorem dX10_livingIn_1 : decode cX10_livingIn 1 = .ok (.istore_n 2, 1) := by decide +kernel
theorem dX10_livingIn_2 : decode cX10_livingIn 2 = .ok (.iconst 0, 1) := by decide +kernel
theorem dX10_livingIn_3 : decode cX10_livingIn 3 = .ok (.istore_n 3, 1) := by decide +kernel
theorem dX10_livingIn_4 : decode cX10_livingIn 4 = .ok (.iload_n 3, 1) := by decide +kernel
theorem dX10_livingIn_5 : decode cX10_livingIn 5 = .ok (.aload_n 0, 1) := by decide +kernel
theorem dX10_livingIn_6 : decode cX10_livingIn 6 = .ok (.getfield 29, 3) := by decide +kernel
theorem dX10_livingIn_9 : decode cX10_livingIn 9 = .ok (.iconst 0, 1) := by decide +kernel
theorem dX10_livingIn_10 : decode cX10_livingIn 10 = .ok (.iaload, 1) := by decide +kernel
theorem dX10_livingIn_11 : decode cX10_livingIn 11 = .ok (.if_icmp .ge 32, 3) := by decide +kernel
theorem dX10_livingIn_14 : decode cX10_livingIn 14 = .ok (.iload_n 2, 1) := by decide +kernel
theorem dX10_livingIn_15 : decode cX10_livingIn 15 = .ok (.aload_n 0, 1) := by decide +kernel
theorem dX10_livingIn_16 : decode cX10_livingIn 16 = .ok (.getfield 38, 3) := by decide +kernel
theorem dX10_livingIn_19 : decode cX10_livingIn 19 = .ok (.bipush 28, 2) := by decide +kernel
theorem dX10_livingIn_21 : decode cX10_livingIn 21 = .ok (.iload_n 3, 1) := by decide +kernel
theorem dX10_livingIn_22 : decode cX10_livingIn 22 = .ok (.iadd, 1) := by decide +kernel
theorem dX10_livingIn_23 : decode cX10_livingIn 23 = .ok (.iaload, 1) := by decide +kernel
theorem dX10_livingIn_24 : decode cX10_livingIn 24 = .ok (.iload_n 1, 1) := by decide +kernel
theorem dX10_livingIn_25 : decode cX10_livingIn 25 = .ok (.if_icmp .ne 9, 3) := by decide +kernel
theorem dX10_livingIn_28 : decode cX10_livingIn 28 = .ok (.iconst 1, 1) := by decide +kernel
theorem dX10_livingIn_29 : decode cX10_livingIn 29 = .ok (.iload_n 3, 1) := by decide +kernel
theorem dX10_livingIn_30 : decode cX10_livingIn 30 = .ok (.ishl, 1) := by decide +kernel
theorem dX10_livingIn_31 : decode cX10_livingIn 31 = .ok (.goto 4, 3) := by decide +kernel
theorem dX10_livingIn_34 : decode cX10_livingIn 34 = .ok (.iconst 0, 1) := by decide +kernel
theorem dX10_livingIn_35 : decode cX10_livingIn 35 = .ok (.ior, 1) := by decide +kernel
theorem dX10_livingIn_36 : decode cX10_livingIn 36 = .ok (.istore_n 2, 1) := by decide +kernel
theorem dX10_livingIn_37 : decode cX10_livingIn 37 = .ok (.iinc 3 1, 3) := by decide +kernel
theorem dX10_livingIn_40 : decode cX10_livingIn 40 = .ok (.goto (-36), 3) := by decide +kernel
theorem dX10_livingIn_43 : decode cX10_livingIn 43 = .ok (.iload_n 2, 1) := by decide +kernel
theorem dX10_livingIn_44 : decode cX10_livingIn 44 = .ok (.ireturn, 1) := by decide +kernel
theorem dX10_doMeet_0 : decode cX10_doMeet 0 = .ok (.aload_n 0, 1) := by decide +kernel
theorem dX10_doMeet_1 : decode cX10_doMeet 1 = .ok (.getfield 20, 3) := by decide +kernel
theorem dX10_doMeet_4 : decode cX10_doMeet 4 = .ok (.iload_n 1, 1) := by decide +kernel
theorem dX10_doMeet_5 : decode cX10_doMeet 5 = .ok (.iaload, 1) := by decide +kernel
theorem dX10_doMeet_6 : decode cX10_doMeet 6 = .ok (.aload_n 0, 1) := by decide +kernel
theorem dX10_doMeet_7 : decode cX10_doMeet 7 = .ok (.getfield 20, 3) := by decide +kernel
theorem dX10_doMeet_10 : decode cX10_doMeet 10 = .ok (.iload_n 2, 1) := by decide +kernel
theorem dX10_doMeet_11 : decode cX10_doMeet 11 = .ok (.iaload, 1) := by decide +kernel
theorem dX10_doMeet_12 : decode cX10_doMeet 12 = .ok (.if_icmp .eq 48, 3) := by decide +kernel
theorem dX10_doMeet_15 : decode cX10_doMeet 15 = .ok (.aload_n 0, 1) := by decide +kernel
theorem dX10_doMeet_16 : decode cX10_doMeet 16 = .ok (.getfield 20, 3) := by decide +kernel
theorem dX10_doMeet_19 : decode cX10_doMeet 19 = .ok (.iload_n 1, 1) := by decide +kernel
theorem dX10_doMeet_20 : decode cX10_doMeet 20 = .ok (.iaload, 1) := by decide +kernel
theorem dX10_doMeet_21 : decode cX10_doMeet 21 = .ok (.aload_n 0, 1) := by decide +kernel
theorem dX10_doMeet_22 : decode cX10_doMeet 22 = .ok (.getfield 23, 3) := by decide +kernel
theorem dX10_doMeet_25 : decode cX10_doMeet 25 = .ok (.iload_n 2, 1) := by decide +kernel
theorem dX10_doMeet_26 : decode cX10_doMeet 26 = .ok (.iaload, 1) := by decide +kernel
theorem dX10_doMeet_27 : decode cX10_doMeet 27 = .ok (.if_icmp .eq 33, 3) := by decide +kernel
theorem dX10_doMeet_30 : decode cX10_doMeet 30 = .ok (.aload_n 0, 1) := by decide +kernel
theorem dX10_doMeet_31 : decode cX10_doMeet 31 = .ok (.getfield 23, 3) := by decide +kernel
theorem dX10_doMeet_34 : decode cX10_doMeet 34 = .ok (.iload_n 1, 1) := by decide +kernel
theorem dX10_doMeet_35 : decode cX10_doMeet 35 = .ok (.iaload, 1) := by decide +kernel
theorem dX10_doMeet_36 : decode cX10_doMeet 36 = .ok (.aload_n 0, 1) := by decide +kernel
theorem dX10_doMeet_37 : decode cX10_doMeet 37 = .ok (.getfield 20, 3) := by decide +kernel
theorem dX10_doMeet_40 : decode cX10_doMeet 40 = .ok (.iload_n 2, 1) := by decide +kernel
theorem dX10_doMeet_41 : decode cX10_doMeet 41 = .ok (.iaload, 1) := by decide +kernel
theorem dX10_doMeet_42 : decode cX10_doMeet 42 = .ok (.if_icmp .eq 18, 3) := by decide +kernel
theorem dX10_doMeet_45 : decode cX10_doMeet 45 = .ok (.aload_n 0, 1) := by decide +kernel
theorem dX10_doMeet_46 : decode cX10_doMeet 46 = .ok (.getfield 23, 3) := by decide +kernel
theorem dX10_doMeet_49 : decode cX10_doMeet 49 = .ok (.iload_n 1, 1) := by decide +kernel
theorem dX10_doMeet_50 : decode cX10_doMeet 50 = .ok (.iaload, 1) := by decide +kernel
theorem dX10_doMeet_51 : decode cX10_doMeet 51 = .ok (.aload_n 0, 1) := by decide +kernel
theorem dX10_doMeet_52 : decode cX10_doMeet 52 = .ok (.getfield 23, 3) := by decide +kernel
theorem dX10_doMeet_55 : decode cX10_doMeet 55 = .ok (.iload_n 2, 1) := by decide +kernel
theorem dX10_doMeet_56 : decode cX10_doMeet 56 = .ok (.iaload, 1) := by decide +kernel
theorem dX10_doMeet_57 : decode cX10_doMeet 57 = .ok (.if_icmp .ne 7, 3) := by decide +kernel
theorem dX10_doMeet_60 : decode cX10_doMeet 60 = .ok (.iconst 1, 1) := by decide +kernel
theorem dX10_doMeet_61 : decode cX10_doMeet 61 = .ok (.goto 4, 3) := by decide +kernel
theorem dX10_doMeet_64 : decode cX10_doMeet 64 = .ok (.iconst 0, 1) := by decide +kernel
theorem dX10_doMeet_65 : decode cX10_doMeet 65 = .ok (.ireturn, 1) := by decide +kernel
set_option maxRecDepth 20000 in
theorem ggX10_witnesses_X10_doMeet : GoodIn wsX10_witnesses wsX10_doMeet := goodIn_r _ [7, 8, 9, 10, 11, 12, 13, 14, 15, 16, 17, 18, 19, 20, 21, 22, 23, 24, 25, 26, 27, 28, 29, 30, 31, 32, 33, 34, 35] (by decide +kernel) (by decide +kernel)
set_option maxRecDepth 20000 in
theorem gX10_witnesses_X10_doMeet : GoodIn wsX10_witnesses (wsV RX10 126 RX10 yX10_doMeet wsX10_doMeet) := goodIn_app (goodIn_of _ (by decide +kernel)) ggX10_witnesses_X10_doMeet
theorem dX10_witnesses_0 : decode cX10_witnesses 0 = .ok (.iconst 0, 1) := by decide +kernel
theorem dX10_witnesses_1 : decode cX10_witnesses 1 = .ok (.istore_n 2, 1) := by decide +kernel
theorem dX10_witnesses_2 : decode cX10_witnesses 2 = .ok (.iconst 0, 1) := by decide +kernel
theorem dX10_witnesses_3 : decode cX10_witnesses 3 = .ok (.istore_n 3, 1) := by decide +kernel
theorem dX10_witnesses_4 : decode cX10_witnesses 4 = .ok (.iload_n 3, 1) := by decide +kernel
theorem dX10_witnesses_5 : decode cX10_witnesses 5 = .ok (.aload_n 0, 1) := by decide +kernel
theorem dX10_witnesses_6 : decode cX10_witnesses 6 = .ok (.getfield 29, 3) := by decide +kernel
theorem dX10_witnesses_9 : decode cX10_witnesses 9 = .ok (.iconst 0, 1) := by decide +kernel
theorem dX10_witnesses_10 : decode cX10_witnesses 10 = .ok (.iaload, 1) := by decide +kernel
theorem dX10_witnesses_11 : decode cX10_witnesses 11 = .ok (.if_icmp .ge 49, 3) := by decide +kernel
theorem dX10_witnesses_14 : decode cX10_witnesses 14 = .ok (.iload_n 2, 1) := by decide +kernel
theorem dX10_witnesses_15 : decode cX10_witnesses 15 = .ok (.iload_n 3, 1) := by decide +kernel
theorem dX10_witnesses_16 : decode cX10_witnesses 16 = .ok (.iload_n 1, 1) := by decide +kernel
theorem dX10_witnesses_17 : decode cX10_witnesses 17 = .ok (.if_icmp .eq 34, 3) := by decide +kernel
theorem dX10_witnesses_20 : decode cX10_witnesses 20 = .ok (.aload_n 0, 1) := by decide +kernel
theorem dX10_witnesses_21 : decode cX10_witnesses 21 = .ok (.aload_n 0, 1) := by decide +kernel
theorem dX10_witnesses_22 : decode cX10_witnesses 22 = .ok (.getfield 38, 3) := by decide +kernel
theorem dX10_witnesses_25 : decode cX10_witnesses 25 = .ok (.bipush 28, 2) := by decide +kernel
theorem dX10_witnesses_27 : decode cX10_witnesses 27 = .ok (.iload_n 1, 1) := by decide +kernel
theorem dX10_witnesses_28 : decode cX10_witnesses 28 = .ok (.iadd, 1) := by decide +kernel
theorem dX10_witnesses_29 : decode cX10_witnesses 29 = .ok (.iaload, 1) := by decide +kernel
theorem dX10_witnesses_30 : decode cX10_witnesses 30 = .ok (.aload_n 0, 1) := by decide +kernel
theorem dX10_witnesses_31 : decode cX10_witnesses 31 = .ok (.getfield 38, 3) := by decide +kernel
theorem dX10_witnesses_34 : decode cX10_witnesses 34 = .ok (.bipush 28, 2) := by decide +kernel
theorem dX10_witnesses_36 : decode cX10_witnesses 36 = .ok (.iload_n 3, 1) := by decide +kernel
theorem dX10_witnesses_37 : decode cX10_witnesses 37 = .ok (.iadd, 1) := by decide +kernel
theorem dX10_witnesses_38 : decode cX10_witnesses 38 = .ok (.iaload, 1) := by decide +kernel
theorem dX10_witnesses_39 : decode cX10_witnesses 39 = .ok (.invokevirtual 126, 3) := by decide +kernel
theorem dX10_witnesses_42 : decode cX10_witnesses 42 = .ok (.ifCond .eq 9, 3) := by decide +kernel
theorem dX10_witnesses_45 : decode cX10_witnesses 45 = .ok (.iconst 1, 1) := by decide +kernel
theorem dX10_witnesses_46 : decode cX10_witnesses 46 = .ok (.iload_n 3, 1) := by decide +kernel
theorem dX10_witnesses_47 : decode cX10_witnesses 47 = .ok (.ishl, 1) := by decide +kernel
theorem dX10_witnesses_48 : decode cX10_witnesses 48 = .ok (.goto 4, 3) := by decide +kernel
theorem dX10_witnesses_51 : decode cX10_witnesses 51 = .ok (.iconst 0, 1) := by decide +kernel
theorem dX10_witnesses_52 : decode cX10_witnesses 52 = .ok (.ior, 1) := by decide +kernel
theorem dX10_witnesses_53 : decode cX10_witnesses 53 = .ok (.istore_n 2, 1) := by decide +kernel
theorem dX10_witnesses_54 : decode cX10_witnesses 54 = .ok (.iinc 3 1, 3) := by decide +kernel
theorem dX10_witnesses_57 : decode cX10_witnesses 57 = .ok (.goto (-53), 3) := by decide +kernel
theorem dX10_witnesses_60 : decode cX10_witnesses 60 = .ok (.iload_n 2, 1) := by decide +kernel
theorem dX10_witnesses_61 : decode cX10_witnesses 61 = .ok (.ireturn, 1) := by decide +kernel
set_option maxRecDepth 20000 in
theorem ggX10_street_X10_isStreet : GoodIn wsX10_street wsX10_isStreet := goodIn_r _ [8, 9, 10, 11, 7, 12, 22, 23, 24, 25, 26, 27, 28, 29, 30, 31, 32, 33, 34, 35, 36, 37, 38, 39, 40, 41, 42, 43, 44, 45, 46, 47] (by decide +kernel) (by decide +kernel)
set_option maxRecDepth 20000 in
theorem gX10_street_X10_isStreet : GoodIn wsX10_street (wsV RX10 130 RX10 yX10_isStreet wsX10_isStreet) := goodIn_app (goodIn_of _ (by decide +kernel)) ggX10_street_X10_isStreet
set_option maxRecDepth 20000 in
theorem ggX10_street_X10_widthOf : GoodIn wsX10_street wsX10_widthOf := goodIn_r _ [16, 3, 22, 23, 24, 25, 26, 27, 28, 29, 30, 31, 32, 33, 34, 35, 36, 37, 38, 39, 40, 41, 42, 43, 44, 45, 46, 47] (by decide +kernel) (by decide +kernel)
set_option maxRecDepth 20000 in
theorem gX10_street_X10_widthOf : GoodIn wsX10_street (wsV RX10 122 RX10 yX10_widthOf wsX10_widthOf) := goodIn_app (goodIn_of _ (by decide +kernel)) ggX10_street_X10_widthOf
set_option maxRecDepth 20000 in
theorem ggX10_street_X10_livingIn : GoodIn wsX10_street wsX10_livingIn := goodIn_r _ [20, 21, 3, 22, 23, 24, 25, 26, 27, 28, 29, 30, 31, 32, 33, 34, 35, 36, 37, 38, 39, 40, 41, 42, 43, 44, 45, 46, 47] (by decide +kernel) (by decide +kernel)
set_option maxRecDepth 20000 in
theorem gX10_street_X10_livingIn : GoodIn wsX10_street (wsV RX10 133 RX10 yX10_livingIn wsX10_livingIn) := goodIn_app (goodIn_of _ (by decide +kernel)) ggX10_street_X10_livingIn
theorem dX10_street_0 : decode cX10_street 0 = .ok (.aload_n 0, 1) := by decide +kernel
theorem dX10_street_1 : decode cX10_street 1 = .ok (.iload_n 1, 1) := by decide +kernel
theorem dX10_street_2 : decode cX10_street 2 = .ok (.invokevirtual 130, 3) := by decide +kernel
theorem dX10_street_5 : decode cX10_street 5 = .ok (.ifCond .ne 5, 3) := by decide +kernel
theorem dX10_street_8 : decode cX10_street 8 = .ok (.iconst (-1), 1) := by decide +kernel
theorem dX10_street_9 : decode cX10_street 9 = .ok (.ireturn, 1) := by decide +kernel
theorem dX10_street_10 : decode cX10_street 10 = .ok (.iload_n 2, 1) := by decide +kernel
theorem dX10_street_11 : decode cX10_street 11 = .ok (.tableswitch 96 0 6 #[41, 48, 55, 64, 74, 84, 90], 41) := by decide +kernel
theorem dX10_street_52 : decode cX10_street 52 = .ok (.aload_n 0, 1) := by decide +kernel
theorem dX10_street_53 : decode cX10_street 53 = .ok (.getfield 20, 3) := by decide +kernel
theorem dX10_street_56 : decode cX10_street 56 = .ok (.iload_n 1, 1) := by decide +kernel
theorem dX10_street_57 : decode cX10_street 57 = .ok (.iaload, 1) := by decide +kernel
theorem dX10_street_58 : decode cX10_street 58 = .ok (.ireturn, 1) := by decide +kernel
theorem dX10_street_59 : decode cX10_street 59 = .ok (.aload_n 0, 1) := by decide +kernel
theorem dX10_street_60 : decode cX10_street 60 = .ok (.getfield 23, 3) := by decide +kernel
theorem dX10_street_63 : decode cX10_street 63 = .ok (.iload_n 1, 1) := by decide +kernel
theorem dX10_street_64 : decode cX10_street 64 = .ok (.iaload, 1) := by decide +kernel
theorem dX10_street_65 : decode cX10_street 65 = .ok (.ireturn, 1) := by decide +kernel
theorem dX10_street_66 : decode cX10_street 66 = .ok (.aload_n 0, 1) := by decide +kernel
theorem dX10_street_67 : decode cX10_street 67 = .ok (.getfield 38, 3) := by decide +kernel
theorem dX10_street_70 : decode cX10_street 70 = .ok (.iconst 1, 1) := by decide +kernel
theorem dX10_street_71 : decode cX10_street 71 = .ok (.iload_n 1, 1) := by decide +kernel
theorem dX10_street_72 : decode cX10_street 72 = .ok (.iadd, 1) := by decide +kernel
theorem dX10_street_73 : decode cX10_street 73 = .ok (.iaload, 1) := by decide +kernel
theorem dX10_street_74 : decode cX10_street 74 = .ok (.ireturn, 1) := by decide +kernel
theorem dX10_street_75 : decode cX10_street 75 = .ok (.aload_n 0, 1) := by decide +kernel
theorem dX10_street_76 : decode cX10_street 76 = .ok (.getfield 38, 3) := by decide +kernel
theorem dX10_street_79 : decode cX10_street 79 = .ok (.bipush 10, 2) := by decide +kernel
theorem dX10_street_81 : decode cX10_street 81 = .ok (.iload_n 1, 1) := by decide +kernel
theorem dX10_street_82 : decode cX10_street 82 = .ok (.iadd, 1) := by decide +kernel
theorem dX10_street_83 : decode cX10_street 83 = .ok (.iaload, 1) := by decide +kernel
theorem dX10_street_84 : decode cX10_street 84 = .ok (.ireturn, 1) := by decide +kernel
theorem dX10_street_85 : decode cX10_street 85 = .ok (.aload_n 0, 1) := by decide +kernel
theorem dX10_street_86 : decode cX10_street 86 = .ok (.getfield 38, 3) := by decide +kernel
theorem dX10_street_89 : decode cX10_street 89 = .ok (.bipush 19, 2) := by decide +kernel
theorem dX10_street_91 : decode cX10_street 91 = .ok (.iload_n 1, 1) := by decide +kernel
theorem dX10_street_92 : decode cX10_street 92 = .ok (.iadd, 1) := by decide +kernel
theorem dX10_street_93 : decode cX10_street 93 = .ok (.iaload, 1) := by decide +kernel
theorem dX10_street_94 : decode cX10_street 94 = .ok (.ireturn, 1) := by decide +kernel
theorem dX10_street_95 : decode cX10_street 95 = .ok (.aload_n 0, 1) := by decide +kernel
theorem dX10_street_96 : decode cX10_street 96 = .ok (.iload_n 1, 1) := by decide +kernel
theorem dX10_street_97 : decode cX10_street 97 = .ok (.invokevirtual 122, 3) := by decide +kernel
theorem dX10_street_100 : decode cX10_street 100 = .ok (.ireturn, 1) := by decide +kernel
theorem dX10_street_101 : decode cX10_street 101 = .ok (.aload_n 0, 1) := by decide +kernel
theorem dX10_street_102 : decode cX10_street 102 = .ok (.iload_n 1, 1) := by decide +kernel
theorem dX10_street_103 : decode cX10_street 103 = .ok (.invokevirtual 133, 3) := by decide +kernel
theorem dX10_street_106 : decode cX10_street 106 = .ok (.ireturn, 1) := by decide +kernel
theorem dX10_street_107 : decode cX10_street 107 = .ok (.iconst (-1), 1) := by decide +kernel
theorem dX10_street_108 : decode cX10_street 108 = .ok (.ireturn, 1) := by decide +kernel
set_option maxRecDepth 20000 in
theorem ggX10_citizen_X10_isPerson : GoodIn wsX10_citizen wsX10_isPerson := goodIn_r _ [7, 8, 9, 10, 6, 11, 22, 23, 24, 25, 26, 27, 28, 29, 30, 31, 32, 33, 34, 35, 36, 37, 38, 39, 40, 41, 42, 43, 44, 45, 46, 47] (by decide +kernel) (by decide +kernel)
set_option maxRecDepth 20000 in
theorem gX10_citizen_X10_isPerson : GoodIn wsX10_citizen (wsV RX10 136 RX10 yX10_isPerson wsX10_isPerson) := goodIn_app (goodIn_of _ (by decide +kernel)) ggX10_citizen_X10_isPerson
set_option maxRecDepth 20000 in
theorem ggX10_citizen_X10_witnesses : GoodIn wsX10_citizen wsX10_witnesses := goodIn_r _ [15, 8, 1, 16, 17, 18, 6, 19, 20, 21, 22, 23, 24, 25, 26, 27, 28, 29, 30, 31, 32, 33, 34, 35, 36, 37, 38, 39, 40, 41, 42, 43, 44, 45, 46, 47] (by decide +kernel) (by decide +kernel)
set_option maxRecDepth 20000 in
theorem gX10_citizen_X10_witnesses : GoodIn wsX10_citizen (wsV RX10 139 RX10 yX10_witnesses wsX10_witnesses) := goodIn_app (goodIn_of _ (by decide +kernel)) ggX10_citizen_X10_witnesses
theorem dX10_citizen_0 : decode cX10_citizen 0 = .ok (.aload_n 0, 1) := by decide +kernel
theorem dX10_citizen_1 : decode cX10_citizen 1 = .ok (.iload_n 1, 1) := by decide +kernel
theorem dX10_citizen_2 : decode cX10_citizen 2 = .ok (.invokevirtual 136, 3) := by decide +kernel
theorem dX10_citizen_5 : decode cX10_citizen 5 = .ok (.ifCond .ne 5, 3) := by decide +kernel
theorem dX10_citizen_8 : decode cX10_citizen 8 = .ok (.iconst (-1), 1) := by decide +kernel
theorem dX10_citizen_9 : decode cX10_citizen 9 = .ok (.ireturn, 1) := by decide +kernel
theorem dX10_citizen_10 : decode cX10_citizen 10 = .ok (.iload_n 2, 1) := by decide +kernel
theorem dX10_citizen_11 : decode cX10_citizen 11 = .ok (.tableswitch 48 0 2 #[25, 35, 42], 25) := by decide +kernel
theorem dX10_citizen_36 : decode cX10_citizen 36 = .ok (.aload_n 0, 1) := by decide +kernel
theorem dX10_citizen_37 : decode cX10_citizen 37 = .ok (.getfield 38, 3) := by decide +kernel
theorem dX10_citizen_40 : decode cX10_citizen 40 = .ok (.bipush 28, 2) := by decide +kernel
theorem dX10_citizen_42 : decode cX10_citizen 42 = .ok (.iload_n 1, 1) := by decide +kernel
theorem dX10_citizen_43 : decode cX10_citizen 43 = .ok (.iadd, 1) := by decide +kernel
theorem dX10_citizen_44 : decode cX10_citizen 44 = .ok (.iaload, 1) := by decide +kernel
theorem dX10_citizen_45 : decode cX10_citizen 45 = .ok (.ireturn, 1) := by decide +kernel
theorem dX10_citizen_46 : decode cX10_citizen 46 = .ok (.aload_n 0, 1) := by decide +kernel
theorem dX10_citizen_47 : decode cX10_citizen 47 = .ok (.getfield 35, 3) := by decide +kernel
theorem dX10_citizen_50 : decode cX10_citizen 50 = .ok (.iload_n 1, 1) := by decide +kernel
theorem dX10_citizen_51 : decode cX10_citizen 51 = .ok (.iaload, 1) := by decide +kernel
theorem dX10_citizen_52 : decode cX10_citizen 52 = .ok (.ireturn, 1) := by decide +kernel
theorem dX10_citizen_53 : decode cX10_citizen 53 = .ok (.aload_n 0, 1) := by decide +kernel
theorem dX10_citizen_54 : decode cX10_citizen 54 = .ok (.iload_n 1, 1) := by decide +kernel
theorem dX10_citizen_55 : decode cX10_citizen 55 = .ok (.invokevirtual 139, 3) := by decide +kernel
theorem dX10_citizen_58 : decode cX10_citizen 58 = .ok (.ireturn, 1) := by decide +kernel
theorem dX10_citizen_59 : decode cX10_citizen 59 = .ok (.iconst (-1), 1) := by decide +kernel
theorem dX10_citizen_60 : decode cX10_citizen 60 = .ok (.ireturn, 1) := by decide +kernel
theorem dX10_know_0 : decode cX10_know 0 = .ok (.aload_n 0, 1) := by decide +kernel
theorem dX10_know_1 : decode cX10_know 1 = .ok (.getfield 41, 3) := by decide +kernel
theorem dX10_know_4 : decode cX10_know 4 = .ok (.iconst 0, 1) := by decide +kernel
theorem dX10_know_5 : decode cX10_know 5 = .ok (.iaload, 1) := by decide +kernel
theorem dX10_know_6 : decode cX10_know 6 = .ok (.bipush 10, 2) := by decide +kernel
theorem dX10_know_8 : decode cX10_know 8 = .ok (.if_icmp .ne 43, 3) := by decide +kernel
theorem dX10_know_11 : decode cX10_know 11 = .ok (.iconst 0, 1) := by decide +kernel
theorem dX10_know_12 : decode cX10_know 12 = .ok (.istore_n 1, 1) := by decide +kernel
theorem dX10_know_13 : decode cX10_know 13 = .ok (.iload_n 1, 1) := by decide +kernel
theorem dX10_know_14 : decode cX10_know 14 = .ok (.sipush 306, 3) := by decide +kernel
theorem dX10_know_17 : decode cX10_know 17 = .ok (.if_icmp .ge 24, 3) := by decide +kernel
theorem dX10_know_20 : decode cX10_know 20 = .ok (.aload_n 0, 1) := by decide +kernel
theorem dX10_know_21 : decode cX10_know 21 = .ok (.getfield 44, 3) := by decide +kernel
theorem dX10_know_24 : decode cX10_know 24 = .ok (.iload_n 1, 1) := by decide +kernel
theorem dX10_know_25 : decode cX10_know 25 = .ok (.aload_n 0, 1) := by decide +kernel
theorem dX10_know_26 : decode cX10_know 26 = .ok (.getfield 44, 3) := by decide +kernel
theorem dX10_know_29 : decode cX10_know 29 = .ok (.bipush 34, 2) := by decide +kernel
theorem dX10_know_31 : decode cX10_know 31 = .ok (.iload_n 1, 1) := by decide +kernel
theorem dX10_know_32 : decode cX10_know 32 = .ok (.iadd, 1) := by decide +kernel
theorem dX10_know_33 : decode cX10_know 33 = .ok (.iaload, 1) := by decide +kernel
theorem dX10_know_34 : decode cX10_know 34 = .ok (.iastore, 1) := by decide +kernel
theorem dX10_know_35 : decode cX10_know 35 = .ok (.iinc 1 1, 3) := by decide +kernel
theorem dX10_know_38 : decode cX10_know 38 = .ok (.goto (-25), 3) := by decide +kernel
theorem dX10_know_41 : decode cX10_know 41 = .ok (.aload_n 0, 1) := by decide +kernel
theorem dX10_know_42 : decode cX10_know 42 = .ok (.getfield 41, 3) := by decide +kernel
theorem dX10_know_45 : decode cX10_know 45 = .ok (.iconst 0, 1) := by decide +kernel
theorem dX10_know_46 : decode cX10_know 46 = .ok (.dup2, 1) := by decide +kernel
theorem dX10_know_47 : decode cX10_know 47 = .ok (.iaload, 1) := by decide +kernel
theorem dX10_know_48 : decode cX10_know 48 = .ok (.iconst 1, 1) := by decide +kernel
theorem dX10_know_49 : decode cX10_know 49 = .ok (.isub, 1) := by decide +kernel
theorem dX10_know_50 : decode cX10_know 50 = .ok (.iastore, 1) := by decide +kernel
theorem dX10_know_51 : decode cX10_know 51 = .ok (.iconst 0, 1) := by decide +kernel
theorem dX10_know_52 : decode cX10_know 52 = .ok (.istore_n 1, 1) := by decide +kernel
theorem dX10_know_53 : decode cX10_know 53 = .ok (.iload_n 1, 1) := by decide +kernel
theorem dX10_know_54 : decode cX10_know 54 = .ok (.bipush 34, 2) := by decide +kernel
theorem dX10_know_56 : decode cX10_know 56 = .ok (.if_icmp .ge 31, 3) := by decide +kernel
theorem dX10_know_59 : decode cX10_know 59 = .ok (.aload_n 0, 1) := by decide +kernel
theorem dX10_know_60 : decode cX10_know 60 = .ok (.getfield 44, 3) := by decide +kernel
theorem dX10_know_63 : decode cX10_know 63 = .ok (.bipush 34, 2) := by decide +kernel
theorem dX10_know_65 : decode cX10_know 65 = .ok (.aload_n 0, 1) := by decide +kernel
theorem dX10_know_66 : decode cX10_know 66 = .ok (.getfield 41, 3) := by decide +kernel
theorem dX10_know_69 : decode cX10_know 69 = .ok (.iconst 0, 1) := by decide +kernel
theorem dX10_know_70 : decode cX10_know 70 = .ok (.iaload, 1) := by decide +kernel
theorem dX10_know_71 : decode cX10_know 71 = .ok (.imul, 1) := by decide +kernel
theorem dX10_know_72 : decode cX10_know 72 = .ok (.iload_n 1, 1) := by decide +kernel
theorem dX10_know_73 : decode cX10_know 73 = .ok (.iadd, 1) := by decide +kernel
theorem dX10_know_74 : decode cX10_know 74 = .ok (.aload_n 0, 1) := by decide +kernel
theorem dX10_know_75 : decode cX10_know 75 = .ok (.getfield 38, 3) := by decide +kernel
theorem dX10_know_78 : decode cX10_know 78 = .ok (.iload_n 1, 1) := by decide +kernel
theorem dX10_know_79 : decode cX10_know 79 = .ok (.iaload, 1) := by decide +kernel
theorem dX10_know_80 : decode cX10_know 80 = .ok (.iastore, 1) := by decide +kernel
theorem dX10_know_81 : decode cX10_know 81 = .ok (.iinc 1 1, 3) := by decide +kernel
theorem dX10_know_84 : decode cX10_know 84 = .ok (.goto (-31), 3) := by decide +kernel
theorem dX10_know_87 : decode cX10_know 87 = .ok (.aload_n 0, 1) := by decide +kernel
theorem dX10_know_88 : decode cX10_know 88 = .ok (.getfield 41, 3) := by decide +kernel
theorem dX10_know_91 : decode cX10_know 91 = .ok (.iconst 0, 1) := by decide +kernel
theorem dX10_know_92 : decode cX10_know 92 = .ok (.dup2, 1) := by decide +kernel
theorem dX10_know_93 : decode cX10_know 93 = .ok (.iaload, 1) := by decide +kernel
theorem dX10_know_94 : decode cX10_know 94 = .ok (.iconst 1, 1) := by decide +kernel
theorem dX10_know_95 : decode cX10_know 95 = .ok (.iadd, 1) := by decide +kernel
theorem dX10_know_96 : decode cX10_know 96 = .ok (.iastore, 1) := by decide +kernel
theorem dX10_know_97 : decode cX10_know 97 = .ok (.return_, 1) := by decide +kernel
set_option maxRecDepth 20000 in
theorem ggX10_does_X10_isPerson : GoodIn wsX10_does wsX10_isPerson := goodIn_r _ [6, 7, 8, 9, 5, 10, 34, 35, 36, 37, 38, 39, 40, 41, 42, 43, 44, 45, 46, 47, 48, 49, 50, 51, 52, 53, 54, 55, 56, 57, 58, 59] (by decide +kernel) (by decide +kernel)
set_option maxRecDepth 20000 in
theorem gX10_does_X10_isPerson : GoodIn wsX10_does (wsV RX10 136 RX10 yX10_isPerson wsX10_isPerson) := goodIn_app (goodIn_of _ (by decide +kernel)) ggX10_does_X10_isPerson
set_option maxRecDepth 20000 in
theorem ggX10_does_X10_in : GoodIn wsX10_does wsX10_in := goodIn_r _ [10] (by decide +kernel) (by decide +kernel)
set_option maxRecDepth 20000 in
theorem gX10_does_X10_in : GoodIn wsX10_does (va_wsS RX10 63 yX10_in wsX10_in) := goodIn_app (goodIn_of _ (by decide +kernel)) ggX10_does_X10_in
set_option maxRecDepth 20000 in
theorem ggX10_does_X10_know : GoodIn wsX10_does wsX10_know := goodIn_r _ [14, 15, 16, 1, 34, 35, 36, 37, 38, 39, 40, 41, 42, 43, 44, 45, 46, 47, 48, 49, 50, 51, 52, 53, 54, 55, 56, 57, 58, 59] (by decide +kernel) (by decide +kernel)
set_option maxRecDepth 20000 in
theorem gX10_does_X10_know : GoodIn wsX10_does (wsV RX10 142 RX10 yX10_know wsX10_know) := goodIn_app (goodIn_of _ (by decide +kernel)) ggX10_does_X10_know
set_option maxRecDepth 20000 in
theorem ggX10_does_X10_witnesses : GoodIn wsX10_does wsX10_witnesses := goodIn_r _ [20, 7, 1, 21, 22, 23, 5, 24, 25, 26, 34, 35, 36, 37, 38, 39, 40, 41, 42, 43, 44, 45, 46, 47, 48, 49, 50, 51, 52, 53, 54, 55, 56, 57, 58, 59] (by decide +kernel) (by decide +kernel)
set_option maxRecDepth 20000 in
theorem gX10_does_X10_witnesses : GoodIn wsX10_does (wsV RX10 139 RX10 yX10_witnesses wsX10_witnesses) := goodIn_app (goodIn_of _ (by decide +kernel)) ggX10_does_X10_witnesses
set_option maxRecDepth 20000 in
theorem ggX10_does_X10_bitsOf : GoodIn wsX10_does wsX10_bitsOf := goodIn_r _ [29] (by decide +kernel) (by decide +kernel)
set_option maxRecDepth 20000 in
theorem gX10_does_X10_bitsOf : GoodIn wsX10_does (va_wsS RX10 145 yX10_bitsOf wsX10_bitsOf) := goodIn_app (goodIn_of _ (by decide +kernel)) ggX10_does_X10_bitsOf
set_option maxRecDepth 20000 in
theorem ggX10_does_X10_widthOf : GoodIn wsX10_does wsX10_widthOf := goodIn_r _ [33, 1, 34, 35, 36, 37, 38, 39, 40, 41, 42, 43, 44, 45, 46, 47, 48, 49, 50, 51, 52, 53, 54, 55, 56, 57, 58, 59] (by decide +kernel) (by decide +kernel)
set_option maxRecDepth 20000 in
theorem gX10_does_X10_widthOf : GoodIn wsX10_does (wsV RX10 122 RX10 yX10_widthOf wsX10_widthOf) := goodIn_app (goodIn_of _ (by decide +kernel)) ggX10_does_X10_widthOf
theorem dX10_does_0 : decode cX10_does 0 = .ok (.aload_n 0, 1) := by decide +kernel
theorem dX10_does_1 : decode cX10_does 1 = .ok (.iload_n 1, 1) := by decide +kernel
theorem dX10_does_2 : decode cX10_does 2 = .ok (.invokevirtual 136, 3) := by decide +kernel
theorem dX10_does_5 : decode cX10_does 5 = .ok (.ifCond .eq 22, 3) := by decide +kernel
theorem dX10_does_8 : decode cX10_does 8 = .ok (.iload_n 2, 1) := by decide +kernel
theorem dX10_does_9 : decode cX10_does 9 = .ok (.iconst 1, 1) := by decide +kernel
theorem dX10_does_10 : decode cX10_does 10 = .ok (.bipush 9, 2) := by decide +kernel
theorem dX10_does_12 : decode cX10_does 12 = .ok (.invokestatic 63, 3) := by decide +kernel
theorem dX10_does_15 : decode cX10_does 15 = .ok (.ifCond .eq 12, 3) := by decide +kernel
theorem dX10_does_18 : decode cX10_does 18 = .ok (.iload_n 3, 1) := by decide +kernel
theorem dX10_does_19 : decode cX10_does 19 = .ok (.iconst 0, 1) := by decide +kernel
theorem dX10_does_20 : decode cX10_does 20 = .ok (.iconst 1, 1) := by decide +kernel
theorem dX10_does_21 : decode cX10_does 21 = .ok (.invokestatic 63, 3) := by decide +kernel
theorem dX10_does_24 : decode cX10_does 24 = .ok (.ifCond .ne 5, 3) := by decide +kernel
theorem dX10_does_27 : decode cX10_does 27 = .ok (.iconst (-1), 1) := by decide +kernel
theorem dX10_does_28 : decode cX10_does 28 = .ok (.ireturn, 1) := by decide +kernel
theorem dX10_does_29 : decode cX10_does 29 = .ok (.aload_n 0, 1) := by decide +kernel
theorem dX10_does_30 : decode cX10_does 30 = .ok (.invokevirtual 142, 3) := by decide +kernel
theorem dX10_does_33 : decode cX10_does 33 = .ok (.aload_n 0, 1) := by decide +kernel
theorem dX10_does_34 : decode cX10_does 34 = .ok (.getfield 38, 3) := by decide +kernel
theorem dX10_does_37 : decode cX10_does 37 = .ok (.bipush 28, 2) := by decide +kernel
theorem dX10_does_39 : decode cX10_does 39 = .ok (.iload_n 1, 1) := by decide +kernel
theorem dX10_does_40 : decode cX10_does 40 = .ok (.iadd, 1) := by decide +kernel
theorem dX10_does_41 : decode cX10_does 41 = .ok (.iaload, 1) := by decide +kernel
theorem dX10_does_42 : decode cX10_does 42 = .ok (.istore 4, 2) := by decide +kernel
theorem dX10_does_44 : decode cX10_does 44 = .ok (.aload_n 0, 1) := by decide +kernel
theorem dX10_does_45 : decode cX10_does 45 = .ok (.iload_n 1, 1) := by decide +kernel
theorem dX10_does_46 : decode cX10_does 46 = .ok (.invokevirtual 139, 3) := by decide +kernel
theorem dX10_does_49 : decode cX10_does 49 = .ok (.invokestatic 145, 3) := by decide +kernel
theorem dX10_does_52 : decode cX10_does 52 = .ok (.iconst 2, 1) := by decide +kernel
theorem dX10_does_53 : decode cX10_does 53 = .ok (.if_icmp .lt 7, 3) := by decide +kernel
theorem dX10_does_56 : decode cX10_does 56 = .ok (.iconst 1, 1) := by decide +kernel
theorem dX10_does_57 : decode cX10_does 57 = .ok (.goto 4, 3) := by decide +kernel
theorem dX10_does_60 : decode cX10_does 60 = .ok (.iconst 0, 1) := by decide +kernel
theorem dX10_does_61 : decode cX10_does 61 = .ok (.istore 5, 2) := by decide +kernel
theorem dX10_does_63 : decode cX10_does 63 = .ok (.iload 5, 2) := by decide +kernel
theorem dX10_does_65 : decode cX10_does 65 = .ok (.ifCond .eq 16, 3) := by decide +kernel
theorem dX10_does_68 : decode cX10_does 68 = .ok (.iload_n 3, 1) := by decide +kernel
theorem dX10_does_69 : decode cX10_does 69 = .ok (.ifCond .ne 7, 3) := by decide +kernel
theorem dX10_does_72 : decode cX10_does 72 = .ok (.iconst 1, 1) := by decide +kernel
theorem dX10_does_73 : decode cX10_does 73 = .ok (.goto 10, 3) := by decide +kernel
theorem dX10_does_76 : decode cX10_does 76 = .ok (.bipush 19, 2) := by decide +kernel
theorem dX10_does_78 : decode cX10_does 78 = .ok (.goto 5, 3) := by decide +kernel
theorem dX10_does_81 : decode cX10_does 81 = .ok (.bipush 10, 2) := by decide +kernel
theorem dX10_does_83 : decode cX10_does 83 = .ok (.istore 6, 2) := by decide +kernel
theorem dX10_does_85 : decode cX10_does 85 = .ok (.iload 5, 2) := by decide +kernel
theorem dX10_does_87 : decode cX10_does 87 = .ok (.ifCond .ne 7, 3) := by decide +kernel
theorem dX10_does_90 : decode cX10_does 90 = .ok (.iload_n 3, 1) := by decide +kernel
theorem dX10_does_91 : decode cX10_does 91 = .ok (.ifCond .ne 28, 3) := by decide +kernel
theorem dX10_does_94 : decode cX10_does 94 = .ok (.aload_n 0, 1) := by decide +kernel
theorem dX10_does_95 : decode cX10_does 95 = .ok (.getfield 38, 3) := by decide +kernel
theorem dX10_does_98 : decode cX10_does 98 = .ok (.iload 6, 2) := by decide +kernel
theorem dX10_does_100 : decode cX10_does 100 = .ok (.iload 4, 2) := by decide +kernel
theorem dX10_does_102 : decode cX10_does 102 = .ok (.iadd, 1) := by decide +kernel
theorem dX10_does_103 : decode cX10_does 103 = .ok (.iaload, 1) := by decide +kernel
theorem dX10_does_104 : decode cX10_does 104 = .ok (.iload_n 2, 1) := by decide +kernel
theorem dX10_does_105 : decode cX10_does 105 = .ok (.if_icmp .ge 14, 3) := by decide +kernel
theorem dX10_does_108 : decode cX10_does 108 = .ok (.aload_n 0, 1) := by decide +kernel
theorem dX10_does_109 : decode cX10_does 109 = .ok (.getfield 38, 3) := by decide +kernel
theorem dX10_does_112 : decode cX10_does 112 = .ok (.iload 6, 2) := by decide +kernel
theorem dX10_does_114 : decode cX10_does 114 = .ok (.iload 4, 2) := by decide +kernel
theorem dX10_does_116 : decode cX10_does 116 = .ok (.iadd, 1) := by decide +kernel
theorem dX10_does_117 : decode cX10_does 117 = .ok (.iload_n 2, 1) := by decide +kernel
theorem dX10_does_118 : decode cX10_does 118 = .ok (.iastore, 1) := by decide +kernel
theorem dX10_does_119 : decode cX10_does 119 = .ok (.aload_n 0, 1) := by decide +kernel
theorem dX10_does_120 : decode cX10_does 120 = .ok (.iload 4, 2) := by decide +kernel
theorem dX10_does_122 : decode cX10_does 122 = .ok (.invokevirtual 122, 3) := by decide +kernel
theorem dX10_does_125 : decode cX10_does 125 = .ok (.ireturn, 1) := by decide +kernel
set_option maxRecDepth 20000 in
theorem ggX10_wills_X10_isStreet : GoodIn wsX10_wills wsX10_isStreet := goodIn_r _ [6, 7, 8, 9, 5, 10, 17, 18, 19, 20, 21, 22, 23, 24, 25, 26, 27, 28, 29, 30, 31, 32, 33, 34, 35, 36, 37, 38, 39, 40, 41, 42] (by decide +kernel) (by decide +kernel)
set_option maxRecDepth 20000 in
theorem gX10_wills_X10_isStreet : GoodIn wsX10_wills (wsV RX10 130 RX10 yX10_isStreet wsX10_isStreet) := goodIn_app (goodIn_of _ (by decide +kernel)) ggX10_wills_X10_isStreet
set_option maxRecDepth 20000 in
theorem ggX10_wills_X10_know : GoodIn wsX10_wills wsX10_know := goodIn_r _ [14, 15, 16, 1, 17, 18, 19, 20, 21, 22, 23, 24, 25, 26, 27, 28, 29, 30, 31, 32, 33, 34, 35, 36, 37, 38, 39, 40, 41, 42] (by decide +kernel) (by decide +kernel)
set_option maxRecDepth 20000 in
theorem gX10_wills_X10_know : GoodIn wsX10_wills (wsV RX10 142 RX10 yX10_know wsX10_know) := goodIn_app (goodIn_of _ (by decide +kernel)) ggX10_wills_X10_know
theorem dX10_wills_0 : decode cX10_wills 0 = .ok (.aload_n 0, 1) := by decide +kernel
theorem dX10_wills_1 : decode cX10_wills 1 = .ok (.iload_n 1, 1) := by decide +kernel
theorem dX10_wills_2 : decode cX10_wills 2 = .ok (.invokevirtual 130, 3) := by decide +kernel
theorem dX10_wills_5 : decode cX10_wills 5 = .ok (.ifCond .ne 5, 3) := by decide +kernel
theorem dX10_wills_8 : decode cX10_wills 8 = .ok (.iconst (-1), 1) := by decide +kernel
theorem dX10_wills_9 : decode cX10_wills 9 = .ok (.ireturn, 1) := by decide +kernel
theorem dX10_wills_10 : decode cX10_wills 10 = .ok (.aload_n 0, 1) := by decide +kernel
theorem dX10_wills_11 : decode cX10_wills 11 = .ok (.getfield 38, 3) := by decide +kernel
theorem dX10_wills_14 : decode cX10_wills 14 = .ok (.bipush 10, 2) := by decide +kernel
theorem dX10_wills_16 : decode cX10_wills 16 = .ok (.iload_n 1, 1) := by decide +kernel
theorem dX10_wills_17 : decode cX10_wills 17 = .ok (.iadd, 1) := by decide +kernel
theorem dX10_wills_18 : decode cX10_wills 18 = .ok (.iaload, 1) := by decide +kernel
theorem dX10_wills_19 : decode cX10_wills 19 = .ok (.istore_n 2, 1) := by decide +kernel
theorem dX10_wills_20 : decode cX10_wills 20 = .ok (.iload_n 2, 1) := by decide +kernel
theorem dX10_wills_21 : decode cX10_wills 21 = .ok (.ifCond .ne 6, 3) := by decide +kernel
theorem dX10_wills_24 : decode cX10_wills 24 = .ok (.bipush (-2), 2) := by decide +kernel
theorem dX10_wills_26 : decode cX10_wills 26 = .ok (.ireturn, 1) := by decide +kernel
theorem dX10_wills_27 : decode cX10_wills 27 = .ok (.aload_n 0, 1) := by decide +kernel
theorem dX10_wills_28 : decode cX10_wills 28 = .ok (.invokevirtual 142, 3) := by decide +kernel
theorem dX10_wills_31 : decode cX10_wills 31 = .ok (.aload_n 0, 1) := by decide +kernel
theorem dX10_wills_32 : decode cX10_wills 32 = .ok (.getfield 38, 3) := by decide +kernel
theorem dX10_wills_35 : decode cX10_wills 35 = .ok (.iconst 1, 1) := by decide +kernel
theorem dX10_wills_36 : decode cX10_wills 36 = .ok (.iload_n 1, 1) := by decide +kernel
theorem dX10_wills_37 : decode cX10_wills 37 = .ok (.iadd, 1) := by decide +kernel
theorem dX10_wills_38 : decode cX10_wills 38 = .ok (.iload_n 2, 1) := by decide +kernel
theorem dX10_wills_39 : decode cX10_wills 39 = .ok (.aload_n 0, 1) := by decide +kernel
theorem dX10_wills_40 : decode cX10_wills 40 = .ok (.getfield 38, 3) := by decide +kernel
theorem dX10_wills_43 : decode cX10_wills 43 = .ok (.iconst 1, 1) := by decide +kernel
theorem dX10_wills_44 : decode cX10_wills 44 = .ok (.iload_n 1, 1) := by decide +kernel
theorem dX10_wills_45 : decode cX10_wills 45 = .ok (.iadd, 1) := by decide +kernel
theorem dX10_wills_46 : decode cX10_wills 46 = .ok (.iaload, 1) := by decide +kernel
theorem dX10_wills_47 : decode cX10_wills 47 = .ok (.if_icmp .le 7, 3) := by decide +kernel
theorem dX10_wills_50 : decode cX10_wills 50 = .ok (.iload_n 2, 1) := by decide +kernel
theorem dX10_wills_51 : decode cX10_wills 51 = .ok (.goto 11, 3) := by decide +kernel
theorem dX10_wills_54 : decode cX10_wills 54 = .ok (.aload_n 0, 1) := by decide +kernel
theorem dX10_wills_55 : decode cX10_wills 55 = .ok (.getfield 38, 3) := by decide +kernel
theorem dX10_wills_58 : decode cX10_wills 58 = .ok (.iconst 1, 1) := by decide +kernel
theorem dX10_wills_59 : decode cX10_wills 59 = .ok (.iload_n 1, 1) := by decide +kernel
theorem dX10_wills_60 : decode cX10_wills 60 = .ok (.iadd, 1) := by decide +kernel
theorem dX10_wills_61 : decode cX10_wills 61 = .ok (.iaload, 1) := by decide +kernel
theorem dX10_wills_62 : decode cX10_wills 62 = .ok (.iastore, 1) := by decide +kernel
theorem dX10_wills_63 : decode cX10_wills 63 = .ok (.aload_n 0, 1) := by decide +kernel
theorem dX10_wills_64 : decode cX10_wills 64 = .ok (.getfield 38, 3) := by decide +kernel
theorem dX10_wills_67 : decode cX10_wills 67 = .ok (.bipush 10, 2) := by decide +kernel
theorem dX10_wills_69 : decode cX10_wills 69 = .ok (.iload_n 1, 1) := by decide +kernel
theorem dX10_wills_70 : decode cX10_wills 70 = .ok (.iadd, 1) := by decide +kernel
theorem dX10_wills_71 : decode cX10_wills 71 = .ok (.iconst 0, 1) := by decide +kernel
theorem dX10_wills_72 : decode cX10_wills 72 = .ok (.iastore, 1) := by decide +kernel
theorem dX10_wills_73 : decode cX10_wills 73 = .ok (.iload_n 2, 1) := by decide +kernel
theorem dX10_wills_74 : decode cX10_wills 74 = .ok (.ireturn, 1) := by decide +kernel
set_option maxRecDepth 20000 in
theorem ggX10_moves_X10_isPerson : GoodIn wsX10_moves wsX10_isPerson := goodIn_r _ [6, 7, 8, 9, 5, 10, 22, 23, 24, 25, 26, 27, 28, 29, 30, 31, 32, 33, 34, 35, 36, 37, 38, 39, 40, 41, 42, 43, 44, 45, 46, 47] (by decide +kernel) (by decide +kernel)
set_option maxRecDepth 20000 in
theorem gX10_moves_X10_isPerson : GoodIn wsX10_moves (wsV RX10 136 RX10 yX10_isPerson wsX10_isPerson) := goodIn_app (goodIn_of _ (by decide +kernel)) ggX10_moves_X10_isPerson
set_option maxRecDepth 20000 in
theorem ggX10_moves_X10_isStreet : GoodIn wsX10_moves wsX10_isStreet := goodIn_r _ [14, 15, 8, 9, 5, 10, 22, 23, 24, 25, 26, 27, 28, 29, 30, 31, 32, 33, 34, 35, 36, 37, 38, 39, 40, 41, 42, 43, 44, 45, 46, 47] (by decide +kernel) (by decide +kernel)
set_option maxRecDepth 20000 in
theorem gX10_moves_X10_isStreet : GoodIn wsX10_moves (wsV RX10 130 RX10 yX10_isStreet wsX10_isStreet) := goodIn_app (goodIn_of _ (by decide +kernel)) ggX10_moves_X10_isStreet
set_option maxRecDepth 20000 in
theorem ggX10_moves_X10_know : GoodIn wsX10_moves wsX10_know := goodIn_r _ [19, 20, 21, 1, 22, 23, 24, 25, 26, 27, 28, 29, 30, 31, 32, 33, 34, 35, 36, 37, 38, 39, 40, 41, 42, 43, 44, 45, 46, 47] (by decide +kernel) (by decide +kernel)
set_option maxRecDepth 20000 in
theorem gX10_moves_X10_know : GoodIn wsX10_moves (wsV RX10 142 RX10 yX10_know wsX10_know) := goodIn_app (goodIn_of _ (by decide +kernel)) ggX10_moves_X10_know
theorem dX10_moves_0 : decode cX10_moves 0 = .ok (.aload_n 0, 1) := by decide +kernel
theorem dX10_moves_1 : decode cX10_moves 1 = .ok (.iload_n 1, 1) := by decide +kernel
theorem dX10_moves_2 : decode cX10_moves 2 = .ok (.invokevirtual 136, 3) := by decide +kernel
theorem dX10_moves_5 : decode cX10_moves 5 = .ok (.ifCond .eq 11, 3) := by decide +kernel
theorem dX10_moves_8 : decode cX10_moves 8 = .ok (.aload_n 0, 1) := by decide +kernel
theorem dX10_moves_9 : decode cX10_moves 9 = .ok (.iload_n 2, 1) := by decide +kernel
theorem dX10_moves_10 : decode cX10_moves 10 = .ok (.invokevirtual 130, 3) := by decide +kernel
theorem dX10_moves_13 : decode cX10_moves 13 = .ok (.ifCond .ne 5, 3) := by decide +kernel
theorem dX10_moves_16 : decode cX10_moves 16 = .ok (.iconst (-1), 1) := by decide +kernel
theorem dX10_moves_17 : decode cX10_moves 17 = .ok (.ireturn, 1) := by decide +kernel
theorem dX10_moves_18 : decode cX10_moves 18 = .ok (.aload_n 0, 1) := by decide +kernel
theorem dX10_moves_19 : decode cX10_moves 19 = .ok (.getfield 38, 3) := by decide +kernel
theorem dX10_moves_22 : decode cX10_moves 22 = .ok (.bipush 28, 2) := by decide +kernel
theorem dX10_moves_24 : decode cX10_moves 24 = .ok (.iload_n 1, 1) := by decide +kernel
theorem dX10_moves_25 : decode cX10_moves 25 = .ok (.iadd, 1) := by decide +kernel
theorem dX10_moves_26 : decode cX10_moves 26 = .ok (.iaload, 1) := by decide +kernel
theorem dX10_moves_27 : decode cX10_moves 27 = .ok (.istore_n 3, 1) := by decide +kernel
theorem dX10_moves_28 : decode cX10_moves 28 = .ok (.iload_n 3, 1) := by decide +kernel
theorem dX10_moves_29 : decode cX10_moves 29 = .ok (.iload_n 2, 1) := by decide +kernel
theorem dX10_moves_30 : decode cX10_moves 30 = .ok (.if_icmp .ne 6, 3) := by decide +kernel
theorem dX10_moves_33 : decode cX10_moves 33 = .ok (.bipush (-2), 2) := by decide +kernel
theorem dX10_moves_35 : decode cX10_moves 35 = .ok (.ireturn, 1) := by decide +kernel
theorem dX10_moves_36 : decode cX10_moves 36 = .ok (.aload_n 0, 1) := by decide +kernel
theorem dX10_moves_37 : decode cX10_moves 37 = .ok (.invokevirtual 142, 3) := by decide +kernel
theorem dX10_moves_40 : decode cX10_moves 40 = .ok (.aload_n 0, 1) := by decide +kernel
theorem dX10_moves_41 : decode cX10_moves 41 = .ok (.getfield 38, 3) := by decide +kernel
theorem dX10_moves_44 : decode cX10_moves 44 = .ok (.bipush 28, 2) := by decide +kernel
theorem dX10_moves_46 : decode cX10_moves 46 = .ok (.iload_n 1, 1) := by decide +kernel
theorem dX10_moves_47 : decode cX10_moves 47 = .ok (.iadd, 1) := by decide +kernel
theorem dX10_moves_48 : decode cX10_moves 48 = .ok (.iload_n 2, 1) := by decide +kernel
theorem dX10_moves_49 : decode cX10_moves 49 = .ok (.iastore, 1) := by decide +kernel
theorem dX10_moves_50 : decode cX10_moves 50 = .ok (.iload_n 3, 1) := by decide +kernel
theorem dX10_moves_51 : decode cX10_moves 51 = .ok (.ireturn, 1) := by decide +kernel
set_option maxRecDepth 20000 in
theorem ggX10_night_X10_in : GoodIn wsX10_night wsX10_in := goodIn_r _ [5] (by decide +kernel) (by decide +kernel)
set_option maxRecDepth 20000 in
theorem gX10_night_X10_in : GoodIn wsX10_night (va_wsS RX10 63 yX10_in wsX10_in) := goodIn_app (goodIn_of _ (by decide +kernel)) ggX10_night_X10_in
set_option maxRecDepth 20000 in
theorem ggX10_night_X10_know : GoodIn wsX10_night wsX10_know := goodIn_r _ [9, 10, 11, 1, 21, 22, 23, 24, 25, 26, 27, 28, 29, 30, 31, 32, 33, 34, 35, 36, 37, 38, 39, 40, 41, 42, 43, 44, 45, 46] (by decide +kernel) (by decide +kernel)
set_option maxRecDepth 20000 in
theorem gX10_night_X10_know : GoodIn wsX10_night (wsV RX10 142 RX10 yX10_know wsX10_know) := goodIn_app (goodIn_of _ (by decide +kernel)) ggX10_night_X10_know
set_option maxRecDepth 20000 in
theorem ggX10_night_X10_allWidths : GoodIn wsX10_night wsX10_allWidths := goodIn_r _ [15, 16, 17, 18, 19, 4, 20, 1, 21, 22, 23, 24, 25, 26, 27, 28, 29, 30, 31, 32, 33, 34, 35, 36, 37, 38, 39, 40, 41, 42, 43, 44, 45, 46] (by decide +kernel) (by decide +kernel)
set_option maxRecDepth 20000 in
theorem gX10_night_X10_allWidths : GoodIn wsX10_night (wsV RX10 148 RX10 yX10_allWidths wsX10_allWidths) := goodIn_app (goodIn_of _ (by decide +kernel)) ggX10_night_X10_allWidths
theorem dX10_night_0 : decode cX10_night 0 = .ok (.iload_n 1, 1) := by decide +kernel
theorem dX10_night_1 : decode cX10_night 1 = .ok (.iconst 0, 1) := by decide +kernel
theorem dX10_night_2 : decode cX10_night 2 = .ok (.iconst 1, 1) := by decide +kernel
theorem dX10_night_3 : decode cX10_night 3 = .ok (.invokestatic 63, 3) := by decide +kernel
theorem dX10_night_6 : decode cX10_night 6 = .ok (.ifCond .ne 5, 3) := by decide +kernel
theorem dX10_night_9 : decode cX10_night 9 = .ok (.iconst (-1), 1) := by decide +kernel
theorem dX10_night_10 : decode cX10_night 10 = .ok (.ireturn, 1) := by decide +kernel
theorem dX10_night_11 : decode cX10_night 11 = .ok (.aload_n 0, 1) := by decide +kernel
theorem dX10_night_12 : decode cX10_night 12 = .ok (.getfield 38, 3) := by decide +kernel
theorem dX10_night_15 : decode cX10_night 15 = .ok (.iconst 0, 1) := by decide +kernel
theorem dX10_night_16 : decode cX10_night 16 = .ok (.iaload, 1) := by decide +kernel
theorem dX10_night_17 : decode cX10_night 17 = .ok (.iload_n 1, 1) := by decide +kernel
theorem dX10_night_18 : decode cX10_night 18 = .ok (.if_icmp .ne 6, 3) := by decide +kernel
theorem dX10_night_21 : decode cX10_night 21 = .ok (.bipush (-2), 2) := by decide +kernel
theorem dX10_night_23 : decode cX10_night 23 = .ok (.ireturn, 1) := by decide +kernel
theorem dX10_night_24 : decode cX10_night 24 = .ok (.aload_n 0, 1) := by decide +kernel
theorem dX10_night_25 : decode cX10_night 25 = .ok (.invokevirtual 142, 3) := by decide +kernel
theorem dX10_night_28 : decode cX10_night 28 = .ok (.aload_n 0, 1) := by decide +kernel
theorem dX10_night_29 : decode cX10_night 29 = .ok (.getfield 38, 3) := by decide +kernel
theorem dX10_night_32 : decode cX10_night 32 = .ok (.iconst 0, 1) := by decide +kernel
theorem dX10_night_33 : decode cX10_night 33 = .ok (.iload_n 1, 1) := by decide +kernel
theorem dX10_night_34 : decode cX10_night 34 = .ok (.iastore, 1) := by decide +kernel
theorem dX10_night_35 : decode cX10_night 35 = .ok (.aload_n 0, 1) := by decide +kernel
theorem dX10_night_36 : decode cX10_night 36 = .ok (.invokevirtual 148, 3) := by decide +kernel
theorem dX10_night_39 : decode cX10_night 39 = .ok (.ireturn, 1) := by decide +kernel
theorem dX10_undo_0 : decode cX10_undo 0 = .ok (.aload_n 0, 1) := by decide +kernel
theorem dX10_undo_1 : decode cX10_undo 1 = .ok (.getfield 41, 3) := by decide +kernel
theorem dX10_undo_4 : decode cX10_undo 4 = .ok (.iconst 0, 1) := by decide +kernel
theorem dX10_undo_5 : decode cX10_undo 5 = .ok (.iaload, 1) := by decide +kernel
theorem dX10_undo_6 : decode cX10_undo 6 = .ok (.ifCond .ne 6, 3) := by decide +kernel
theorem dX10_undo_9 : decode cX10_undo 9 = .ok (.bipush (-2), 2) := by decide +kernel
theorem dX10_undo_11 : decode cX10_undo 11 = .ok (.ireturn, 1) := by decide +kernel
theorem dX10_undo_12 : decode cX10_undo 12 = .ok (.aload_n 0, 1) := by decide +kernel
theorem dX10_undo_13 : decode cX10_undo 13 = .ok (.getfield 41, 3) := by decide +kernel
theorem dX10_undo_16 : decode cX10_undo 16 = .ok (.iconst 0, 1) := by decide +kernel
theorem dX10_undo_17 : decode cX10_undo 17 = .ok (.dup2, 1) := by decide +kernel
theorem dX10_undo_18 : decode cX10_undo 18 = .ok (.iaload, 1) := by decide +kernel
theorem dX10_undo_19 : decode cX10_undo 19 = .ok (.iconst 1, 1) := by decide +kernel
theorem dX10_undo_20 : decode cX10_undo 20 = .ok (.isub, 1) := by decide +kernel
theorem dX10_undo_21 : decode cX10_undo 21 = .ok (.iastore, 1) := by decide +kernel
theorem dX10_undo_22 : decode cX10_undo 22 = .ok (.iconst 0, 1) := by decide +kernel
theorem dX10_undo_23 : decode cX10_undo 23 = .ok (.istore_n 1, 1) := by decide +kernel
theorem dX10_undo_24 : decode cX10_undo 24 = .ok (.iload_n 1, 1) := by decide +kernel
theorem dX10_undo_25 : decode cX10_undo 25 = .ok (.bipush 34, 2) := by decide +kernel
theorem dX10_undo_27 : decode cX10_undo 27 = .ok (.if_icmp .ge 31, 3) := by decide +kernel
theorem dX10_undo_30 : decode cX10_undo 30 = .ok (.aload_n 0, 1) := by decide +kernel
theorem dX10_undo_31 : decode cX10_undo 31 = .ok (.getfield 38, 3) := by decide +kernel
theorem dX10_undo_34 : decode cX10_undo 34 = .ok (.iload_n 1, 1) := by decide +kernel
theorem dX10_undo_35 : decode cX10_undo 35 = .ok (.aload_n 0, 1) := by decide +kernel
theorem dX10_undo_36 : decode cX10_undo 36 = .ok (.getfield 44, 3) := by decide +kernel
theorem dX10_undo_39 : decode cX10_undo 39 = .ok (.bipush 34, 2) := by decide +kernel
theorem dX10_undo_41 : decode cX10_undo 41 = .ok (.aload_n 0, 1) := by decide +kernel
theorem dX10_undo_42 : decode cX10_undo 42 = .ok (.getfield 41, 3) := by decide +kernel
theorem dX10_undo_45 : decode cX10_undo 45 = .ok (.iconst 0, 1) := by decide +kernel
theorem dX10_undo_46 : decode cX10_undo 46 = .ok (.iaload, 1) := by decide +kernel
theorem dX10_undo_47 : decode cX10_undo 47 = .ok (.imul, 1) := by decide +kernel
theorem dX10_undo_48 : decode cX10_undo 48 = .ok (.iload_n 1, 1) := by decide +kernel
theorem dX10_undo_49 : decode cX10_undo 49 = .ok (.iadd, 1) := by decide +kernel
theorem dX10_undo_50 : decode cX10_undo 50 = .ok (.iaload, 1) := by decide +kernel
theorem dX10_undo_51 : decode cX10_undo 51 = .ok (.iastore, 1) := by decide +kernel
theorem dX10_undo_52 : decode cX10_undo 52 = .ok (.iinc 1 1, 3) := by decide +kernel
theorem dX10_undo_55 : decode cX10_undo 55 = .ok (.goto (-31), 3) := by decide +kernel
theorem dX10_undo_58 : decode cX10_undo 58 = .ok (.aload_n 0, 1) := by decide +kernel
theorem dX10_undo_59 : decode cX10_undo 59 = .ok (.getfield 41, 3) := by decide +kernel
theorem dX10_undo_62 : decode cX10_undo 62 = .ok (.iconst 0, 1) := by decide +kernel
theorem dX10_undo_63 : decode cX10_undo 63 = .ok (.iaload, 1) := by decide +kernel
theorem dX10_undo_64 : decode cX10_undo 64 = .ok (.ireturn, 1) := by decide +kernel
set_option maxRecDepth 20000 in
theorem ggX10_now_X10_allWidths : GoodIn wsX10_now wsX10_allWidths := goodIn_r _ [7, 2, 8, 9, 10, 6, 11, 1, 12, 13, 14, 15, 16, 17, 18, 19, 20, 21, 22, 23, 24, 25, 26, 27, 28, 29, 30, 31, 32, 33, 34, 35, 36, 37] (by decide +kernel) (by decide +kernel)
set_option maxRecDepth 20000 in
theorem gX10_now_X10_allWidths : GoodIn wsX10_now (wsV RX10 148 RX10 yX10_allWidths wsX10_allWidths) := goodIn_app (goodIn_of _ (by decide +kernel)) ggX10_now_X10_allWidths
theorem dX10_now_0 : decode cX10_now 0 = .ok (.iconst 0, 1) := by decide +kernel
theorem dX10_now_1 : decode cX10_now 1 = .ok (.istore_n 2, 1) := by decide +kernel
theorem dX10_now_2 : decode cX10_now 2 = .ok (.iload_n 1, 1) := by decide +kernel
theorem dX10_now_3 : decode cX10_now 3 = .ok (.tableswitch 77 0 2 #[25, 32, 37], 25) := by decide +kernel
theorem dX10_now_28 : decode cX10_now 28 = .ok (.aload_n 0, 1) := by decide +kernel
theorem dX10_now_29 : decode cX10_now 29 = .ok (.getfield 38, 3) := by decide +kernel
theorem dX10_now_32 : decode cX10_now 32 = .ok (.iconst 0, 1) := by decide +kernel
theorem dX10_now_33 : decode cX10_now 33 = .ok (.iaload, 1) := by decide +kernel
theorem dX10_now_34 : decode cX10_now 34 = .ok (.ireturn, 1) := by decide +kernel
theorem dX10_now_35 : decode cX10_now 35 = .ok (.aload_n 0, 1) := by decide +kernel
theorem dX10_now_36 : decode cX10_now 36 = .ok (.invokevirtual 148, 3) := by decide +kernel
theorem dX10_now_39 : decode cX10_now 39 = .ok (.ireturn, 1) := by decide +kernel
theorem dX10_now_40 : decode cX10_now 40 = .ok (.iconst 0, 1) := by decide +kernel
theorem dX10_now_41 : decode cX10_now 41 = .ok (.istore_n 3, 1) := by decide +kernel
theorem dX10_now_42 : decode cX10_now 42 = .ok (.iload_n 3, 1) := by decide +kernel
theorem dX10_now_43 : decode cX10_now 43 = .ok (.aload_n 0, 1) := by decide +kernel
theorem dX10_now_44 : decode cX10_now 44 = .ok (.getfield 17, 3) := by decide +kernel
theorem dX10_now_47 : decode cX10_now 47 = .ok (.iconst 0, 1) := by decide +kernel
theorem dX10_now_48 : decode cX10_now 48 = .ok (.iaload, 1) := by decide +kernel
theorem dX10_now_49 : decode cX10_now 49 = .ok (.if_icmp .ge 29, 3) := by decide +kernel
theorem dX10_now_52 : decode cX10_now 52 = .ok (.iload_n 2, 1) := by decide +kernel
theorem dX10_now_53 : decode cX10_now 53 = .ok (.aload_n 0, 1) := by decide +kernel
theorem dX10_now_54 : decode cX10_now 54 = .ok (.getfield 38, 3) := by decide +kernel
theorem dX10_now_57 : decode cX10_now 57 = .ok (.bipush 10, 2) := by decide +kernel
theorem dX10_now_59 : decode cX10_now 59 = .ok (.iload_n 3, 1) := by decide +kernel
theorem dX10_now_60 : decode cX10_now 60 = .ok (.iadd, 1) := by decide +kernel
theorem dX10_now_61 : decode cX10_now 61 = .ok (.iaload, 1) := by decide +kernel
theorem dX10_now_62 : decode cX10_now 62 = .ok (.ifCond .le 7, 3) := by decide +kernel
theorem dX10_now_65 : decode cX10_now 65 = .ok (.iconst 1, 1) := by decide +kernel
theorem dX10_now_66 : decode cX10_now 66 = .ok (.goto 4, 3) := by decide +kernel
theorem dX10_now_69 : decode cX10_now 69 = .ok (.iconst 0, 1) := by decide +kernel
theorem dX10_now_70 : decode cX10_now 70 = .ok (.iadd, 1) := by decide +kernel
theorem dX10_now_71 : decode cX10_now 71 = .ok (.istore_n 2, 1) := by decide +kernel
theorem dX10_now_72 : decode cX10_now 72 = .ok (.iinc 3 1, 3) := by decide +kernel
theorem dX10_now_75 : decode cX10_now 75 = .ok (.goto (-33), 3) := by decide +kernel
theorem dX10_now_78 : decode cX10_now 78 = .ok (.iload_n 2, 1) := by decide +kernel
theorem dX10_now_79 : decode cX10_now 79 = .ok (.ireturn, 1) := by decide +kernel
theorem dX10_now_80 : decode cX10_now 80 = .ok (.iconst (-1), 1) := by decide +kernel
theorem dX10_now_81 : decode cX10_now 81 = .ok (.ireturn, 1) := by decide +kernel
set_option maxRecDepth 20000 in
theorem ggX10_openBy_X10_widthOf : GoodIn wsX10_openBy wsX10_widthOf := goodIn_r _ [6, 7, 8, 9, 10, 11, 12, 13, 14, 15, 16, 17, 18, 19, 20, 21, 22, 23, 24, 25, 26, 27, 28, 29, 30, 31, 32, 33] (by decide +kernel) (by decide +kernel)
set_option maxRecDepth 20000 in
theorem gX10_openBy_X10_widthOf : GoodIn wsX10_openBy (wsV RX10 122 RX10 yX10_widthOf wsX10_widthOf) := goodIn_app (goodIn_of _ (by decide +kernel)) ggX10_openBy_X10_widthOf
theorem dX10_openBy_0 : decode cX10_openBy 0 = .ok (.iconst 0, 1) := by decide +kernel
theorem dX10_openBy_1 : decode cX10_openBy 1 = .ok (.istore_n 2, 1) := by decide +kernel
theorem dX10_openBy_2 : decode cX10_openBy 2 = .ok (.iconst 0, 1) := by decide +kernel
theorem dX10_openBy_3 : decode cX10_openBy 3 = .ok (.istore_n 3, 1) := by decide +kernel
theorem dX10_openBy_4 : decode cX10_openBy 4 = .ok (.iload_n 3, 1) := by decide +kernel
theorem dX10_openBy_5 : decode cX10_openBy 5 = .ok (.aload_n 0, 1) := by decide +kernel
theorem dX10_openBy_6 : decode cX10_openBy 6 = .ok (.getfield 17, 3) := by decide +kernel
theorem dX10_openBy_9 : decode cX10_openBy 9 = .ok (.iconst 0, 1) := by decide +kernel
theorem dX10_openBy_10 : decode cX10_openBy 10 = .ok (.iaload, 1) := by decide +kernel
theorem dX10_openBy_11 : decode cX10_openBy 11 = .ok (.if_icmp .ge 28, 3) := by decide +kernel
theorem dX10_openBy_14 : decode cX10_openBy 14 = .ok (.iload_n 2, 1) := by decide +kernel
theorem dX10_openBy_15 : decode cX10_openBy 15 = .ok (.aload_n 0, 1) := by decide +kernel
theorem dX10_openBy_16 : decode cX10_openBy 16 = .ok (.iload_n 3, 1) := by decide +kernel
theorem dX10_openBy_17 : decode cX10_openBy 17 = .ok (.invokevirtual 122, 3) := by decide +kernel
theorem dX10_openBy_20 : decode cX10_openBy 20 = .ok (.iload_n 1, 1) := by decide +kernel
theorem dX10_openBy_21 : decode cX10_openBy 21 = .ok (.if_icmp .lt 9, 3) := by decide +kernel
theorem dX10_openBy_24 : decode cX10_openBy 24 = .ok (.iconst 1, 1) := by decide +kernel
theorem dX10_openBy_25 : decode cX10_openBy 25 = .ok (.iload_n 3, 1) := by decide +kernel
theorem dX10_openBy_26 : decode cX10_openBy 26 = .ok (.ishl, 1) := by decide +kernel
theorem dX10_openBy_27 : decode cX10_openBy 27 = .ok (.goto 4, 3) := by decide +kernel
theorem dX10_openBy_30 : decode cX10_openBy 30 = .ok (.iconst 0, 1) := by decide +kernel
theorem dX10_openBy_31 : decode cX10_openBy 31 = .ok (.ior, 1) := by decide +kernel
theorem dX10_openBy_32 : decode cX10_openBy 32 = .ok (.istore_n 2, 1) := by decide +kernel
theorem dX10_openBy_33 : decode cX10_openBy 33 = .ok (.iinc 3 1, 3) := by decide +kernel
theorem dX10_openBy_36 : decode cX10_openBy 36 = .ok (.goto (-32), 3) := by decide +kernel
theorem dX10_openBy_39 : decode cX10_openBy 39 = .ok (.iload_n 2, 1) := by decide +kernel
theorem dX10_openBy_40 : decode cX10_openBy 40 = .ok (.ireturn, 1) := by decide +kernel
set_option maxRecDepth 20000 in
theorem ggX10_wayBy_X10_has : GoodIn wsX10_wayBy wsX10_has := goodIn_r _ [7] (by decide +kernel) (by decide +kernel)
set_option maxRecDepth 20000 in
theorem gX10_wayBy_X10_has : GoodIn wsX10_wayBy (va_wsS RX10 151 yX10_has wsX10_has) := goodIn_app (goodIn_of _ (by decide +kernel)) ggX10_wayBy_X10_has
theorem dX10_wayBy_0 : decode cX10_wayBy 0 = .ok (.iconst 1, 1) := by decide +kernel
theorem dX10_wayBy_1 : decode cX10_wayBy 1 = .ok (.iload_n 1, 1) := by decide +kernel
theorem dX10_wayBy_2 : decode cX10_wayBy 2 = .ok (.ishl, 1) := by decide +kernel
theorem dX10_wayBy_3 : decode cX10_wayBy 3 = .ok (.istore 4, 2) := by decide +kernel
theorem dX10_wayBy_5 : decode cX10_wayBy 5 = .ok (.iconst 0, 1) := by decide +kernel
theorem dX10_wayBy_6 : decode cX10_wayBy 6 = .ok (.istore 5, 2) := by decide +kernel
theorem dX10_wayBy_8 : decode cX10_wayBy 8 = .ok (.iload 5, 2) := by decide +kernel
theorem dX10_wayBy_10 : decode cX10_wayBy 10 = .ok (.bipush 8, 2) := by decide +kernel
theorem dX10_wayBy_12 : decode cX10_wayBy 12 = .ok (.if_icmp .ge 128, 3) := by decide +kernel
theorem dX10_wayBy_15 : decode cX10_wayBy 15 = .ok (.iload 4, 2) := by decide +kernel
theorem dX10_wayBy_17 : decode cX10_wayBy 17 = .ok (.iload_n 2, 1) := by decide +kernel
theorem dX10_wayBy_18 : decode cX10_wayBy 18 = .ok (.invokestatic 151, 3) := by decide +kernel
theorem dX10_wayBy_21 : decode cX10_wayBy 21 = .ok (.ifCond .eq 6, 3) := by decide +kernel
theorem dX10_wayBy_24 : decode cX10_wayBy 24 = .ok (.iload 5, 2) := by decide +kernel
theorem dX10_wayBy_26 : decode cX10_wayBy 26 = .ok (.ireturn, 1) := by decide +kernel
theorem dX10_wayBy_27 : decode cX10_wayBy 27 = .ok (.iload 4, 2) := by decide +kernel
theorem dX10_wayBy_29 : decode cX10_wayBy 29 = .ok (.istore 6, 2) := by decide +kernel
theorem dX10_wayBy_31 : decode cX10_wayBy 31 = .ok (.iconst 0, 1) := by decide +kernel
theorem dX10_wayBy_32 : decode cX10_wayBy 32 = .ok (.istore 7, 2) := by decide +kernel
theorem dX10_wayBy_34 : decode cX10_wayBy 34 = .ok (.iload 7, 2) := by decide +kernel
theorem dX10_wayBy_36 : decode cX10_wayBy 36 = .ok (.aload_n 0, 1) := by decide +kernel
theorem dX10_wayBy_37 : decode cX10_wayBy 37 = .ok (.getfield 17, 3) := by decide +kernel
theorem dX10_wayBy_40 : decode cX10_wayBy 40 = .ok (.iconst 0, 1) := by decide +kernel
theorem dX10_wayBy_41 : decode cX10_wayBy 41 = .ok (.iaload, 1) := by decide +kernel
theorem dX10_wayBy_42 : decode cX10_wayBy 42 = .ok (.if_icmp .ge 88, 3) := by decide +kernel
theorem dX10_wayBy_45 : decode cX10_wayBy 45 = .ok (.iload 4, 2) := by decide +kernel
theorem dX10_wayBy_47 : decode cX10_wayBy 47 = .ok (.aload_n 0, 1) := by decide +kernel
theorem dX10_wayBy_48 : decode cX10_wayBy 48 = .ok (.getfield 20, 3) := by decide +kernel
theorem dX10_wayBy_51 : decode cX10_wayBy 51 = .ok (.iload 7, 2) := by decide +kernel
theorem dX10_wayBy_53 : decode cX10_wayBy 53 = .ok (.iaload, 1) := by decide +kernel
theorem dX10_wayBy_54 : decode cX10_wayBy 54 = .ok (.invokestatic 151, 3) := by decide +kernel
theorem dX10_wayBy_57 : decode cX10_wayBy 57 = .ok (.ifCond .ne 18, 3) := by decide +kernel
theorem dX10_wayBy_60 : decode cX10_wayBy 60 = .ok (.iload 4, 2) := by decide +kernel
theorem dX10_wayBy_62 : decode cX10_wayBy 62 = .ok (.aload_n 0, 1) := by decide +kernel
theorem dX10_wayBy_63 : decode cX10_wayBy 63 = .ok (.getfield 23, 3) := by decide +kernel
theorem dX10_wayBy_66 : decode cX10_wayBy 66 = .ok (.iload 7, 2) := by decide +kernel
theorem dX10_wayBy_68 : decode cX10_wayBy 68 = .ok (.iaload, 1) := by decide +kernel
theorem dX10_wayBy_69 : decode cX10_wayBy 69 = .ok (.invokestatic 151, 3) := by decide +kernel
theorem dX10_wayBy_72 : decode cX10_wayBy 72 = .ok (.ifCond .eq 7, 3) := by decide +kernel
theorem dX10_wayBy_75 : decode cX10_wayBy 75 = .ok (.iconst 1, 1) := by decide +kernel
theorem dX10_wayBy_76 : decode cX10_wayBy 76 = .ok (.goto 4, 3) := by decide +kernel
theorem dX10_wayBy_79 : decode cX10_wayBy 79 = .ok (.iconst 0, 1) := by decide +kernel
theorem dX10_wayBy_80 : decode cX10_wayBy 80 = .ok (.istore 8, 2) := by decide +kernel
theorem dX10_wayBy_82 : decode cX10_wayBy 82 = .ok (.iload 6, 2) := by decide +kernel
theorem dX10_wayBy_84 : decode cX10_wayBy 84 = .ok (.iload_n 3, 1) := by decide +kernel
theorem dX10_wayBy_85 : decode cX10_wayBy 85 = .ok (.iload 7, 2) := by decide +kernel
theorem dX10_wayBy_87 : decode cX10_wayBy 87 = .ok (.invokestatic 151, 3) := by decide +kernel
theorem dX10_wayBy_90 : decode cX10_wayBy 90 = .ok (.ifCond .eq 30, 3) := by decide +kernel
theorem dX10_wayBy_93 : decode cX10_wayBy 93 = .ok (.iload 8, 2) := by decide +kernel
theorem dX10_wayBy_95 : decode cX10_wayBy 95 = .ok (.ifCond .eq 25, 3) := by decide +kernel
theorem dX10_wayBy_98 : decode cX10_wayBy 98 = .ok (.iconst 1, 1) := by decide +kernel
theorem dX10_wayBy_99 : decode cX10_wayBy 99 = .ok (.aload_n 0, 1) := by decide +kernel
theorem dX10_wayBy_100 : decode cX10_wayBy 100 = .ok (.getfield 20, 3) := by decide +kernel
theorem dX10_wayBy_103 : decode cX10_wayBy 103 = .ok (.iload 7, 2) := by decide +kernel
theorem dX10_wayBy_105 : decode cX10_wayBy 105 = .ok (.iaload, 1) := by decide +kernel
theorem dX10_wayBy_106 : decode cX10_wayBy 106 = .ok (.ishl, 1) := by decide +kernel
theorem dX10_wayBy_107 : decode cX10_wayBy 107 = .ok (.iconst 1, 1) := by decide +kernel
theorem dX10_wayBy_108 : decode cX10_wayBy 108 = .ok (.aload_n 0, 1) := by decide +kernel
theorem dX10_wayBy_109 : decode cX10_wayBy 109 = .ok (.getfield 23, 3) := by decide +kernel
theorem dX10_wayBy_112 : decode cX10_wayBy 112 = .ok (.iload 7, 2) := by decide +kernel
theorem dX10_wayBy_114 : decode cX10_wayBy 114 = .ok (.iaload, 1) := by decide +kernel
theorem dX10_wayBy_115 : decode cX10_wayBy 115 = .ok (.ishl, 1) := by decide +kernel
theorem dX10_wayBy_116 : decode cX10_wayBy 116 = .ok (.ior, 1) := by decide +kernel
theorem dX10_wayBy_117 : decode cX10_wayBy 117 = .ok (.goto 4, 3) := by decide +kernel
theorem dX10_wayBy_120 : decode cX10_wayBy 120 = .ok (.iconst 0, 1) := by decide +kernel
theorem dX10_wayBy_121 : decode cX10_wayBy 121 = .ok (.ior, 1) := by decide +kernel
theorem dX10_wayBy_122 : decode cX10_wayBy 122 = .ok (.istore 6, 2) := by decide +kernel
theorem dX10_wayBy_124 : decode cX10_wayBy 124 = .ok (.iinc 7 1, 3) := by decide +kernel
theorem dX10_wayBy_127 : decode cX10_wayBy 127 = .ok (.goto (-93), 3) := by decide +kernel
theorem dX10_wayBy_130 : decode cX10_wayBy 130 = .ok (.iload 6, 2) := by decide +kernel
theorem dX10_wayBy_132 : decode cX10_wayBy 132 = .ok (.istore 4, 2) := by decide +kernel
theorem dX10_wayBy_134 : decode cX10_wayBy 134 = .ok (.iinc 5 1, 3) := by decide +kernel
theorem dX10_wayBy_137 : decode cX10_wayBy 137 = .ok (.goto (-129), 3) := by decide +kernel
theorem dX10_wayBy_140 : decode cX10_wayBy 140 = .ok (.bipush (-9), 2) := by decide +kernel
theorem dX10_wayBy_142 : decode cX10_wayBy 142 = .ok (.ireturn, 1) := by decide +kernel
set_option maxRecDepth 20000 in
theorem ggX10_widest_X10_areTwo : GoodIn wsX10_widest wsX10_areTwo := goodIn_r _ [5, 6, 7, 8, 4, 9, 10, 11, 12, 13, 33, 34, 35, 36, 37, 38, 39, 40, 41, 42, 43, 44, 45, 46, 47, 48, 49, 50, 51, 52, 53, 54, 55, 56, 57, 58] (by decide +kernel) (by decide +kernel)
set_option maxRecDepth 20000 in
theorem gX10_widest_X10_areTwo : GoodIn wsX10_widest (wsV RX10 154 RX10 yX10_areTwo wsX10_areTwo) := goodIn_app (goodIn_of _ (by decide +kernel)) ggX10_widest_X10_areTwo
set_option maxRecDepth 20000 in
theorem ggX10_widest_X10_openBy : GoodIn wsX10_widest wsX10_openBy := goodIn_r _ [17, 18, 19, 20, 21, 4, 22, 23, 33, 34, 35, 36, 37, 38, 39, 40, 41, 42, 43, 44, 45, 46, 47, 48, 49, 50, 51, 52, 53, 54, 55, 56, 57, 58] (by decide +kernel) (by decide +kernel)
set_option maxRecDepth 20000 in
theorem gX10_widest_X10_openBy : GoodIn wsX10_widest (wsV RX10 157 RX10 yX10_openBy wsX10_openBy) := goodIn_app (goodIn_of _ (by decide +kernel)) ggX10_widest_X10_openBy
set_option maxRecDepth 20000 in
theorem ggX10_widest_X10_wayBy : GoodIn wsX10_widest wsX10_wayBy := goodIn_r _ [27, 18, 28, 29, 30, 31, 4, 32, 33, 34, 35, 36, 37, 38, 39, 40, 41, 42, 43, 44, 45, 46, 47, 48, 49, 50, 51, 52, 53, 54, 55, 56, 57, 58] (by decide +kernel) (by decide +kernel)
set_option maxRecDepth 20000 in
theorem gX10_widest_X10_wayBy : GoodIn wsX10_widest (wsV RX10 160 RX10 yX10_wayBy wsX10_wayBy) := goodIn_app (goodIn_of _ (by decide +kernel)) ggX10_widest_X10_wayBy
theorem dX10_widest_0 : decode cX10_widest 0 = .ok (.aload_n 0, 1) := by decide +kernel
theorem dX10_widest_1 : decode cX10_widest 1 = .ok (.iload_n 1, 1) := by decide +kernel
theorem dX10_widest_2 : decode cX10_widest 2 = .ok (.iload_n 2, 1) := by decide +kernel
theorem dX10_widest_3 : decode cX10_widest 3 = .ok (.invokevirtual 154, 3) := by decide +kernel
theorem dX10_widest_6 : decode cX10_widest 6 = .ok (.ifCond .ne 5, 3) := by decide +kernel
theorem dX10_widest_9 : decode cX10_widest 9 = .ok (.iconst (-1), 1) := by decide +kernel
theorem dX10_widest_10 : decode cX10_widest 10 = .ok (.ireturn, 1) := by decide +kernel
theorem dX10_widest_11 : decode cX10_widest 11 = .ok (.bipush 10, 2) := by decide +kernel
theorem dX10_widest_13 : decode cX10_widest 13 = .ok (.istore_n 3, 1) := by decide +kernel
theorem dX10_widest_14 : decode cX10_widest 14 = .ok (.iload_n 3, 1) := by decide +kernel
theorem dX10_widest_15 : decode cX10_widest 15 = .ok (.iconst 1, 1) := by decide +kernel
theorem dX10_widest_16 : decode cX10_widest 16 = .ok (.if_icmp .lt 27, 3) := by decide +kernel
theorem dX10_widest_19 : decode cX10_widest 19 = .ok (.aload_n 0, 1) := by decide +kernel
theorem dX10_widest_20 : decode cX10_widest 20 = .ok (.iload_n 1, 1) := by decide +kernel
theorem dX10_widest_21 : decode cX10_widest 21 = .ok (.iload_n 2, 1) := by decide +kernel
theorem dX10_widest_22 : decode cX10_widest 22 = .ok (.aload_n 0, 1) := by decide +kernel
theorem dX10_widest_23 : decode cX10_widest 23 = .ok (.iload_n 3, 1) := by decide +kernel
theorem dX10_widest_24 : decode cX10_widest 24 = .ok (.invokevirtual 157, 3) := by decide +kernel
theorem dX10_widest_27 : decode cX10_widest 27 = .ok (.invokevirtual 160, 3) := by decide +kernel
theorem dX10_widest_30 : decode cX10_widest 30 = .ok (.bipush (-9), 2) := by decide +kernel
theorem dX10_widest_32 : decode cX10_widest 32 = .ok (.if_icmp .eq 5, 3) := by decide +kernel
theorem dX10_widest_35 : decode cX10_widest 35 = .ok (.iload_n 3, 1) := by decide +kernel
theorem dX10_widest_36 : decode cX10_widest 36 = .ok (.ireturn, 1) := by decide +kernel
theorem dX10_widest_37 : decode cX10_widest 37 = .ok (.iinc 3 (-1), 3) := by decide +kernel
theorem dX10_widest_40 : decode cX10_widest 40 = .ok (.goto (-26), 3) := by decide +kernel
theorem dX10_widest_43 : decode cX10_widest 43 = .ok (.bipush (-9), 2) := by decide +kernel
theorem dX10_widest_45 : decode cX10_widest 45 = .ok (.ireturn, 1) := by decide +kernel
set_option maxRecDepth 20000 in
theorem ggX10_way_X10_areTwo : GoodIn wsX10_way wsX10_areTwo := goodIn_r _ [5, 6, 7, 8, 4, 9, 10, 11, 12, 13, 33, 34, 35, 36, 37, 38, 39, 40, 41, 42, 43, 44, 45, 46, 47, 48, 49, 50, 51, 52, 53, 54, 55, 56, 57, 58] (by decide +kernel) (by decide +kernel)
set_option maxRecDepth 20000 in
theorem gX10_way_X10_areTwo : GoodIn wsX10_way (wsV RX10 154 RX10 yX10_areTwo wsX10_areTwo) := goodIn_app (goodIn_of _ (by decide +kernel)) ggX10_way_X10_areTwo
set_option maxRecDepth 20000 in
theorem ggX10_way_X10_in : GoodIn wsX10_way wsX10_in := goodIn_r _ [13] (by decide +kernel) (by decide +kernel)
set_option maxRecDepth 20000 in
theorem gX10_way_X10_in : GoodIn wsX10_way (va_wsS RX10 63 yX10_in wsX10_in) := goodIn_app (goodIn_of _ (by decide +kernel)) ggX10_way_X10_in
set_option maxRecDepth 20000 in
theorem ggX10_way_X10_openBy : GoodIn wsX10_way wsX10_openBy := goodIn_r _ [17, 18, 19, 20, 21, 4, 22, 23, 33, 34, 35, 36, 37, 38, 39, 40, 41, 42, 43, 44, 45, 46, 47, 48, 49, 50, 51, 52, 53, 54, 55, 56, 57, 58] (by decide +kernel) (by decide +kernel)
set_option maxRecDepth 20000 in
theorem gX10_way_X10_openBy : GoodIn wsX10_way (wsV RX10 157 RX10 yX10_openBy wsX10_openBy) := goodIn_app (goodIn_of _ (by decide +kernel)) ggX10_way_X10_openBy
set_option maxRecDepth 20000 in
theorem ggX10_way_X10_wayBy : GoodIn wsX10_way wsX10_wayBy := goodIn_r _ [27, 18, 28, 29, 30, 31, 4, 32, 33, 34, 35, 36, 37, 38, 39, 40, 41, 42, 43, 44, 45, 46, 47, 48, 49, 50, 51, 52, 53, 54, 55, 56, 57, 58] (by decide +kernel) (by decide +kernel)
set_option maxRecDepth 20000 in
theorem gX10_way_X10_wayBy : GoodIn wsX10_way (wsV RX10 160 RX10 yX10_wayBy wsX10_wayBy) := goodIn_app (goodIn_of _ (by decide +kernel)) ggX10_way_X10_wayBy
theorem dX10_way_0 : decode cX10_way 0 = .ok (.aload_n 0, 1) := by decide +kernel
theorem dX10_way_1 : decode cX10_way 1 = .ok (.iload_n 1, 1) := by decide +kernel
theorem dX10_way_2 : decode cX10_way 2 = .ok (.iload_n 2, 1) := by decide +kernel
theorem dX10_way_3 : decode cX10_way 3 = .ok (.invokevirtual 154, 3) := by decide +kernel
theorem dX10_way_6 : decode cX10_way 6 = .ok (.ifCond .eq 13, 3) := by decide +kernel
theorem dX10_way_9 : decode cX10_way 9 = .ok (.iload_n 3, 1) := by decide +kernel
theorem dX10_way_10 : decode cX10_way 10 = .ok (.iconst 1, 1) := by decide +kernel
theorem dX10_way_11 : decode cX10_way 11 = .ok (.bipush 10, 2) := by decide +kernel
theorem dX10_way_13 : decode cX10_way 13 = .ok (.invokestatic 63, 3) := by decide +kernel
theorem dX10_way_16 : decode cX10_way 16 = .ok (.ifCond .ne 5, 3) := by decide +kernel
theorem dX10_way_19 : decode cX10_way 19 = .ok (.iconst (-1), 1) := by decide +kernel
theorem dX10_way_20 : decode cX10_way 20 = .ok (.ireturn, 1) := by decide +kernel
theorem dX10_way_21 : decode cX10_way 21 = .ok (.aload_n 0, 1) := by decide +kernel
theorem dX10_way_22 : decode cX10_way 22 = .ok (.iload_n 1, 1) := by decide +kernel
theorem dX10_way_23 : decode cX10_way 23 = .ok (.iload_n 2, 1) := by decide +kernel
theorem dX10_way_24 : decode cX10_way 24 = .ok (.aload_n 0, 1) := by decide +kernel
theorem dX10_way_25 : decode cX10_way 25 = .ok (.iload_n 3, 1) := by decide +kernel
theorem dX10_way_26 : decode cX10_way 26 = .ok (.invokevirtual 157, 3) := by decide +kernel
theorem dX10_way_29 : decode cX10_way 29 = .ok (.invokevirtual 160, 3) := by decide +kernel
theorem dX10_way_32 : decode cX10_way 32 = .ok (.ireturn, 1) := by decide +kernel
set_option maxRecDepth 20000 in
theorem ggX10_widthsOf_X10_has : GoodIn wsX10_widthsOf wsX10_has := goodIn_r _ [5] (by decide +kernel) (by decide +kernel)
set_option maxRecDepth 20000 in
theorem gX10_widthsOf_X10_has : GoodIn wsX10_widthsOf (va_wsS RX10 151 yX10_has wsX10_has) := goodIn_app (goodIn_of _ (by decide +kernel)) ggX10_widthsOf_X10_has
set_option maxRecDepth 20000 in
theorem ggX10_widthsOf_X10_widthOf : GoodIn wsX10_widthsOf wsX10_widthOf := goodIn_r _ [9, 10, 11, 12, 13, 14, 15, 16, 17, 18, 19, 20, 21, 22, 23, 24, 25, 26, 27, 28, 29, 30, 31, 32, 33, 34, 35, 36] (by decide +kernel) (by decide +kernel)
set_option maxRecDepth 20000 in
theorem gX10_widthsOf_X10_widthOf : GoodIn wsX10_widthsOf (wsV RX10 122 RX10 yX10_widthOf wsX10_widthOf) := goodIn_app (goodIn_of _ (by decide +kernel)) ggX10_widthsOf_X10_widthOf
theorem dX10_widthsOf_0 : decode cX10_widthsOf 0 = .ok (.iconst 0, 1) := by decide +kernel
theorem dX10_widthsOf_1 : decode cX10_widthsOf 1 = .ok (.istore_n 2, 1) := by decide +kernel
theorem dX10_widthsOf_2 : decode cX10_widthsOf 2 = .ok (.iconst 0, 1) := by decide +kernel
theorem dX10_widthsOf_3 : decode cX10_widthsOf 3 = .ok (.istore_n 3, 1) := by decide +kernel
theorem dX10_widthsOf_4 : decode cX10_widthsOf 4 = .ok (.iload_n 3, 1) := by decide +kernel
theorem dX10_widthsOf_5 : decode cX10_widthsOf 5 = .ok (.aload_n 0, 1) := by decide +kernel
theorem dX10_widthsOf_6 : decode cX10_widthsOf 6 = .ok (.getfield 17, 3) := by decide +kernel
theorem dX10_widthsOf_9 : decode cX10_widthsOf 9 = .ok (.iconst 0, 1) := by decide +kernel
theorem dX10_widthsOf_10 : decode cX10_widthsOf 10 = .ok (.iaload, 1) := by decide +kernel
theorem dX10_widthsOf_11 : decode cX10_widthsOf 11 = .ok (.if_icmp .ge 29, 3) := by decide +kernel
theorem dX10_widthsOf_14 : decode cX10_widthsOf 14 = .ok (.iload_n 2, 1) := by decide +kernel
theorem dX10_widthsOf_15 : decode cX10_widthsOf 15 = .ok (.iload_n 1, 1) := by decide +kernel
theorem dX10_widthsOf_16 : decode cX10_widthsOf 16 = .ok (.iload_n 3, 1) := by decide +kernel
theorem dX10_widthsOf_17 : decode cX10_widthsOf 17 = .ok (.invokestatic 151, 3) := by decide +kernel
theorem dX10_widthsOf_20 : decode cX10_widthsOf 20 = .ok (.ifCond .eq 11, 3) := by decide +kernel
theorem dX10_widthsOf_23 : decode cX10_widthsOf 23 = .ok (.aload_n 0, 1) := by decide +kernel
theorem dX10_widthsOf_24 : decode cX10_widthsOf 24 = .ok (.iload_n 3, 1) := by decide +kernel
theorem dX10_widthsOf_25 : decode cX10_widthsOf 25 = .ok (.invokevirtual 122, 3) := by decide +kernel
theorem dX10_widthsOf_28 : decode cX10_widthsOf 28 = .ok (.goto 4, 3) := by decide +kernel
theorem dX10_widthsOf_31 : decode cX10_widthsOf 31 = .ok (.iconst 0, 1) := by decide +kernel
theorem dX10_widthsOf_32 : decode cX10_widthsOf 32 = .ok (.iadd, 1) := by decide +kernel
theorem dX10_widthsOf_33 : decode cX10_widthsOf 33 = .ok (.istore_n 2, 1) := by decide +kernel
theorem dX10_widthsOf_34 : decode cX10_widthsOf 34 = .ok (.iinc 3 1, 3) := by decide +kernel
theorem dX10_widthsOf_37 : decode cX10_widthsOf 37 = .ok (.goto (-33), 3) := by decide +kernel
theorem dX10_widthsOf_40 : decode cX10_widthsOf 40 = .ok (.iload_n 2, 1) := by decide +kernel
theorem dX10_widthsOf_41 : decode cX10_widthsOf 41 = .ok (.ireturn, 1) := by decide +kernel
set_option maxRecDepth 20000 in
theorem ggX10_flow_X10_areTwo : GoodIn wsX10_flow wsX10_areTwo := goodIn_r _ [5, 6, 7, 8, 4, 9, 10, 11, 12, 13, 40, 41, 42, 43, 44, 45, 46, 47, 48, 49, 50, 51, 52, 53, 54, 55, 56, 57, 58, 59, 60, 61, 62, 63, 64, 65] (by decide +kernel) (by decide +kernel)
set_option maxRecDepth 20000 in
theorem gX10_flow_X10_areTwo : GoodIn wsX10_flow (wsV RX10 154 RX10 yX10_areTwo wsX10_areTwo) := goodIn_app (goodIn_of _ (by decide +kernel)) ggX10_flow_X10_areTwo
set_option maxRecDepth 20000 in
theorem ggX10_flow_X10_in : GoodIn wsX10_flow wsX10_in := goodIn_r _ [13] (by decide +kernel) (by decide +kernel)
set_option maxRecDepth 20000 in
theorem gX10_flow_X10_in : GoodIn wsX10_flow (va_wsS RX10 63 yX10_in wsX10_in) := goodIn_app (goodIn_of _ (by decide +kernel)) ggX10_flow_X10_in
set_option maxRecDepth 20000 in
theorem ggX10_flow_X10_openBy : GoodIn wsX10_flow wsX10_openBy := goodIn_r _ [17, 18, 19, 20, 21, 4, 22, 23, 40, 41, 42, 43, 44, 45, 46, 47, 48, 49, 50, 51, 52, 53, 54, 55, 56, 57, 58, 59, 60, 61, 62, 63, 64, 65] (by decide +kernel) (by decide +kernel)
set_option maxRecDepth 20000 in
theorem gX10_flow_X10_openBy : GoodIn wsX10_flow (wsV RX10 157 RX10 yX10_openBy wsX10_openBy) := goodIn_app (goodIn_of _ (by decide +kernel)) ggX10_flow_X10_openBy
set_option maxRecDepth 20000 in
theorem ggX10_flow_X10_widthsOf : GoodIn wsX10_flow wsX10_widthsOf := goodIn_r _ [27, 18, 28, 29, 4, 30, 19, 20, 21, 22, 23, 40, 41, 42, 43, 44, 45, 46, 47, 48, 49, 50, 51, 52, 53, 54, 55, 56, 57, 58, 59, 60, 61, 62, 63, 64, 65] (by decide +kernel) (by decide +kernel)
set_option maxRecDepth 20000 in
theorem gX10_flow_X10_widthsOf : GoodIn wsX10_flow (wsV RX10 164 RX10 yX10_widthsOf wsX10_widthsOf) := goodIn_app (goodIn_of _ (by decide +kernel)) ggX10_flow_X10_widthsOf
set_option maxRecDepth 20000 in
theorem ggX10_flow_X10_bitsOf : GoodIn wsX10_flow wsX10_bitsOf := goodIn_r _ [33] (by decide +kernel) (by decide +kernel)
set_option maxRecDepth 20000 in
theorem gX10_flow_X10_bitsOf : GoodIn wsX10_flow (va_wsS RX10 145 yX10_bitsOf wsX10_bitsOf) := goodIn_app (goodIn_of _ (by decide +kernel)) ggX10_flow_X10_bitsOf
set_option maxRecDepth 20000 in
theorem ggX10_flow_X10_wayBy : GoodIn wsX10_flow wsX10_wayBy := goodIn_r _ [37, 18, 38, 39, 28, 29, 4, 30, 40, 41, 42, 43, 44, 45, 46, 47, 48, 49, 50, 51, 52, 53, 54, 55, 56, 57, 58, 59, 60, 61, 62, 63, 64, 65] (by decide +kernel) (by decide +kernel)
set_option maxRecDepth 20000 in
theorem gX10_flow_X10_wayBy : GoodIn wsX10_flow (wsV RX10 160 RX10 yX10_wayBy wsX10_wayBy) := goodIn_app (goodIn_of _ (by decide +kernel)) ggX10_flow_X10_wayBy
theorem dX10_flow_0 : decode cX10_flow 0 = .ok (.aload_n 0, 1) := by decide +kernel
theorem dX10_flow_1 : decode cX10_flow 1 = .ok (.iload_n 1, 1) := by decide +kernel
theorem dX10_flow_2 : decode cX10_flow 2 = .ok (.iload_n 2, 1) := by decide +kernel
theorem dX10_flow_3 : decode cX10_flow 3 = .ok (.invokevirtual 154, 3) := by decide +kernel
theorem dX10_flow_6 : decode cX10_flow 6 = .ok (.ifCond .eq 12, 3) := by decide +kernel
theorem dX10_flow_9 : decode cX10_flow 9 = .ok (.iload_n 3, 1) := by decide +kernel
theorem dX10_flow_10 : decode cX10_flow 10 = .ok (.iconst 0, 1) := by decide +kernel
theorem dX10_flow_11 : decode cX10_flow 11 = .ok (.iconst 1, 1) := by decide +kernel
theorem dX10_flow_12 : decode cX10_flow 12 = .ok (.invokestatic 63, 3) := by decide +kernel
theorem dX10_flow_15 : decode cX10_flow 15 = .ok (.ifCond .ne 5, 3) := by decide +kernel
theorem dX10_flow_18 : decode cX10_flow 18 = .ok (.iconst (-1), 1) := by decide +kernel
theorem dX10_flow_19 : decode cX10_flow 19 = .ok (.ireturn, 1) := by decide +kernel
theorem dX10_flow_20 : decode cX10_flow 20 = .ok (.aload_n 0, 1) := by decide +kernel
theorem dX10_flow_21 : decode cX10_flow 21 = .ok (.iconst 0, 1) := by decide +kernel
theorem dX10_flow_22 : decode cX10_flow 22 = .ok (.invokevirtual 157, 3) := by decide +kernel
theorem dX10_flow_25 : decode cX10_flow 25 = .ok (.istore 4, 2) := by decide +kernel
theorem dX10_flow_27 : decode cX10_flow 27 = .ok (.bipush (-9), 2) := by decide +kernel
theorem dX10_flow_29 : decode cX10_flow 29 = .ok (.istore 5, 2) := by decide +kernel
theorem dX10_flow_31 : decode cX10_flow 31 = .ok (.iconst 0, 1) := by decide +kernel
theorem dX10_flow_32 : decode cX10_flow 32 = .ok (.istore 6, 2) := by decide +kernel
theorem dX10_flow_34 : decode cX10_flow 34 = .ok (.iconst 0, 1) := by decide +kernel
theorem dX10_flow_35 : decode cX10_flow 35 = .ok (.istore 7, 2) := by decide +kernel
theorem dX10_flow_37 : decode cX10_flow 37 = .ok (.iload 7, 2) := by decide +kernel
theorem dX10_flow_39 : decode cX10_flow 39 = .ok (.iload 4, 2) := by decide +kernel
theorem dX10_flow_41 : decode cX10_flow 41 = .ok (.if_icmp .gt 89, 3) := by decide +kernel
theorem dX10_flow_44 : decode cX10_flow 44 = .ok (.aload_n 0, 1) := by decide +kernel
theorem dX10_flow_45 : decode cX10_flow 45 = .ok (.iload 7, 2) := by decide +kernel
theorem dX10_flow_47 : decode cX10_flow 47 = .ok (.invokevirtual 164, 3) := by decide +kernel
theorem dX10_flow_50 : decode cX10_flow 50 = .ok (.istore 8, 2) := by decide +kernel
theorem dX10_flow_52 : decode cX10_flow 52 = .ok (.iload 5, 2) := by decide +kernel
theorem dX10_flow_54 : decode cX10_flow 54 = .ok (.bipush (-9), 2) := by decide +kernel
theorem dX10_flow_56 : decode cX10_flow 56 = .ok (.if_icmp .eq 30, 3) := by decide +kernel
theorem dX10_flow_59 : decode cX10_flow 59 = .ok (.iload 8, 2) := by decide +kernel
theorem dX10_flow_61 : decode cX10_flow 61 = .ok (.iload 6, 2) := by decide +kernel
theorem dX10_flow_63 : decode cX10_flow 63 = .ok (.if_icmp .lt 23, 3) := by decide +kernel
theorem dX10_flow_66 : decode cX10_flow 66 = .ok (.iload 8, 2) := by decide +kernel
theorem dX10_flow_68 : decode cX10_flow 68 = .ok (.iload 6, 2) := by decide +kernel
theorem dX10_flow_70 : decode cX10_flow 70 = .ok (.if_icmp .ne 20, 3) := by decide +kernel
theorem dX10_flow_73 : decode cX10_flow 73 = .ok (.iload 7, 2) := by decide +kernel
theorem dX10_flow_75 : decode cX10_flow 75 = .ok (.invokestatic 145, 3) := by decide +kernel
theorem dX10_flow_78 : decode cX10_flow 78 = .ok (.iload 5, 2) := by decide +kernel
theorem dX10_flow_80 : decode cX10_flow 80 = .ok (.invokestatic 145, 3) := by decide +kernel
theorem dX10_flow_83 : decode cX10_flow 83 = .ok (.if_icmp .ge 7, 3) := by decide +kernel
theorem dX10_flow_86 : decode cX10_flow 86 = .ok (.iconst 1, 1) := by decide +kernel
theorem dX10_flow_87 : decode cX10_flow 87 = .ok (.goto 4, 3) := by decide +kernel
theorem dX10_flow_90 : decode cX10_flow 90 = .ok (.iconst 0, 1) := by decide +kernel
theorem dX10_flow_91 : decode cX10_flow 91 = .ok (.istore 9, 2) := by decide +kernel
theorem dX10_flow_93 : decode cX10_flow 93 = .ok (.iload 9, 2) := by decide +kernel
theorem dX10_flow_95 : decode cX10_flow 95 = .ok (.ifCond .eq 29, 3) := by decide +kernel
theorem dX10_flow_98 : decode cX10_flow 98 = .ok (.aload_n 0, 1) := by decide +kernel
theorem dX10_flow_99 : decode cX10_flow 99 = .ok (.iload_n 1, 1) := by decide +kernel
theorem dX10_flow_100 : decode cX10_flow 100 = .ok (.iload_n 2, 1) := by decide +kernel
theorem dX10_flow_101 : decode cX10_flow 101 = .ok (.iload 4, 2) := by decide +kernel
theorem dX10_flow_103 : decode cX10_flow 103 = .ok (.iload 7, 2) := by decide +kernel
theorem dX10_flow_105 : decode cX10_flow 105 = .ok (.iconst (-1), 1) := by decide +kernel
theorem dX10_flow_106 : decode cX10_flow 106 = .ok (.ixor, 1) := by decide +kernel
theorem dX10_flow_107 : decode cX10_flow 107 = .ok (.iand, 1) := by decide +kernel
theorem dX10_flow_108 : decode cX10_flow 108 = .ok (.invokevirtual 160, 3) := by decide +kernel
theorem dX10_flow_111 : decode cX10_flow 111 = .ok (.bipush (-9), 2) := by decide +kernel
theorem dX10_flow_113 : decode cX10_flow 113 = .ok (.if_icmp .ne 11, 3) := by decide +kernel
theorem dX10_flow_116 : decode cX10_flow 116 = .ok (.iload 7, 2) := by decide +kernel
theorem dX10_flow_118 : decode cX10_flow 118 = .ok (.istore 5, 2) := by decide +kernel
theorem dX10_flow_120 : decode cX10_flow 120 = .ok (.iload 8, 2) := by decide +kernel
theorem dX10_flow_122 : decode cX10_flow 122 = .ok (.istore 6, 2) := by decide +kernel
theorem dX10_flow_124 : decode cX10_flow 124 = .ok (.iinc 7 1, 3) := by decide +kernel
theorem dX10_flow_127 : decode cX10_flow 127 = .ok (.goto (-90), 3) := by decide +kernel
theorem dX10_flow_130 : decode cX10_flow 130 = .ok (.iload_n 3, 1) := by decide +kernel
theorem dX10_flow_131 : decode cX10_flow 131 = .ok (.ifCond .ne 8, 3) := by decide +kernel
theorem dX10_flow_134 : decode cX10_flow 134 = .ok (.iload 6, 2) := by decide +kernel
theorem dX10_flow_136 : decode cX10_flow 136 = .ok (.goto 5, 3) := by decide +kernel
theorem dX10_flow_139 : decode cX10_flow 139 = .ok (.iload 5, 2) := by decide +kernel
theorem dX10_flow_141 : decode cX10_flow 141 = .ok (.ireturn, 1) := by decide +kernel
set_option maxRecDepth 20000 in
theorem ggX10_need_X10_areTwo : GoodIn wsX10_need wsX10_areTwo := goodIn_r _ [5, 6, 7, 8, 4, 9, 10, 11, 12, 13, 36, 37, 38, 39, 40, 41, 42, 43, 44, 45, 46, 47, 48, 49, 50, 51, 52, 53, 54, 55, 56, 57, 58, 59, 60, 61] (by decide +kernel) (by decide +kernel)
set_option maxRecDepth 20000 in
theorem gX10_need_X10_areTwo : GoodIn wsX10_need (wsV RX10 154 RX10 yX10_areTwo wsX10_areTwo) := goodIn_app (goodIn_of _ (by decide +kernel)) ggX10_need_X10_areTwo
set_option maxRecDepth 20000 in
theorem ggX10_need_X10_in : GoodIn wsX10_need wsX10_in := goodIn_r _ [13] (by decide +kernel) (by decide +kernel)
set_option maxRecDepth 20000 in
theorem gX10_need_X10_in : GoodIn wsX10_need (va_wsS RX10 63 yX10_in wsX10_in) := goodIn_app (goodIn_of _ (by decide +kernel)) ggX10_need_X10_in
set_option maxRecDepth 20000 in
theorem ggX10_need_X10_openBy : GoodIn wsX10_need wsX10_openBy := goodIn_r _ [17, 18, 19, 20, 21, 4, 22, 23, 36, 37, 38, 39, 40, 41, 42, 43, 44, 45, 46, 47, 48, 49, 50, 51, 52, 53, 54, 55, 56, 57, 58, 59, 60, 61] (by decide +kernel) (by decide +kernel)
set_option maxRecDepth 20000 in
theorem gX10_need_X10_openBy : GoodIn wsX10_need (wsV RX10 157 RX10 yX10_openBy wsX10_openBy) := goodIn_app (goodIn_of _ (by decide +kernel)) ggX10_need_X10_openBy
set_option maxRecDepth 20000 in
theorem ggX10_need_X10_bitsOf : GoodIn wsX10_need wsX10_bitsOf := goodIn_r _ [26] (by decide +kernel) (by decide +kernel)
set_option maxRecDepth 20000 in
theorem gX10_need_X10_bitsOf : GoodIn wsX10_need (va_wsS RX10 145 yX10_bitsOf wsX10_bitsOf) := goodIn_app (goodIn_of _ (by decide +kernel)) ggX10_need_X10_bitsOf
set_option maxRecDepth 20000 in
theorem ggX10_need_X10_wayBy : GoodIn wsX10_need wsX10_wayBy := goodIn_r _ [30, 18, 31, 32, 33, 34, 4, 35, 36, 37, 38, 39, 40, 41, 42, 43, 44, 45, 46, 47, 48, 49, 50, 51, 52, 53, 54, 55, 56, 57, 58, 59, 60, 61] (by decide +kernel) (by decide +kernel)
set_option maxRecDepth 20000 in
theorem gX10_need_X10_wayBy : GoodIn wsX10_need (wsV RX10 160 RX10 yX10_wayBy wsX10_wayBy) := goodIn_app (goodIn_of _ (by decide +kernel)) ggX10_need_X10_wayBy
theorem dX10_need_0 : decode cX10_need 0 = .ok (.aload_n 0, 1) := by decide +kernel
theorem dX10_need_1 : decode cX10_need 1 = .ok (.iload_n 1, 1) := by decide +kernel
theorem dX10_need_2 : decode cX10_need 2 = .ok (.iload_n 2, 1) := by decide +kernel
theorem dX10_need_3 : decode cX10_need 3 = .ok (.invokevirtual 154, 3) := by decide +kernel
theorem dX10_need_6 : decode cX10_need 6 = .ok (.ifCond .eq 13, 3) := by decide +kernel
theorem dX10_need_9 : decode cX10_need 9 = .ok (.iload_n 3, 1) := by decide +kernel
theorem dX10_need_10 : decode cX10_need 10 = .ok (.iconst 1, 1) := by decide +kernel
theorem dX10_need_11 : decode cX10_need 11 = .ok (.bipush 10, 2) := by decide +kernel
theorem dX10_need_13 : decode cX10_need 13 = .ok (.invokestatic 63, 3) := by decide +kernel
theorem dX10_need_16 : decode cX10_need 16 = .ok (.ifCond .ne 5, 3) := by decide +kernel
theorem dX10_need_19 : decode cX10_need 19 = .ok (.iconst (-1), 1) := by decide +kernel
theorem dX10_need_20 : decode cX10_need 20 = .ok (.ireturn, 1) := by decide +kernel
theorem dX10_need_21 : decode cX10_need 21 = .ok (.aload_n 0, 1) := by decide +kernel
theorem dX10_need_22 : decode cX10_need 22 = .ok (.iload_n 3, 1) := by decide +kernel
theorem dX10_need_23 : decode cX10_need 23 = .ok (.invokevirtual 157, 3) := by decide +kernel
theorem dX10_need_26 : decode cX10_need 26 = .ok (.istore 4, 2) := by decide +kernel
theorem dX10_need_28 : decode cX10_need 28 = .ok (.aload_n 0, 1) := by decide +kernel
theorem dX10_need_29 : decode cX10_need 29 = .ok (.iconst 0, 1) := by decide +kernel
theorem dX10_need_30 : decode cX10_need 30 = .ok (.invokevirtual 157, 3) := by decide +kernel
theorem dX10_need_33 : decode cX10_need 33 = .ok (.istore 5, 2) := by decide +kernel
theorem dX10_need_35 : decode cX10_need 35 = .ok (.bipush (-9), 2) := by decide +kernel
theorem dX10_need_37 : decode cX10_need 37 = .ok (.istore 6, 2) := by decide +kernel
theorem dX10_need_39 : decode cX10_need 39 = .ok (.iconst 0, 1) := by decide +kernel
theorem dX10_need_40 : decode cX10_need 40 = .ok (.istore 7, 2) := by decide +kernel
theorem dX10_need_42 : decode cX10_need 42 = .ok (.iload 7, 2) := by decide +kernel
theorem dX10_need_44 : decode cX10_need 44 = .ok (.iload 5, 2) := by decide +kernel
theorem dX10_need_46 : decode cX10_need 46 = .ok (.if_icmp .gt 49, 3) := by decide +kernel
theorem dX10_need_49 : decode cX10_need 49 = .ok (.iload 6, 2) := by decide +kernel
theorem dX10_need_51 : decode cX10_need 51 = .ok (.bipush (-9), 2) := by decide +kernel
theorem dX10_need_53 : decode cX10_need 53 = .ok (.if_icmp .eq 16, 3) := by decide +kernel
theorem dX10_need_56 : decode cX10_need 56 = .ok (.iload 7, 2) := by decide +kernel
theorem dX10_need_58 : decode cX10_need 58 = .ok (.invokestatic 145, 3) := by decide +kernel
theorem dX10_need_61 : decode cX10_need 61 = .ok (.iload 6, 2) := by decide +kernel
theorem dX10_need_63 : decode cX10_need 63 = .ok (.invokestatic 145, 3) := by decide +kernel
theorem dX10_need_66 : decode cX10_need 66 = .ok (.if_icmp .ge 23, 3) := by decide +kernel
theorem dX10_need_69 : decode cX10_need 69 = .ok (.aload_n 0, 1) := by decide +kernel
theorem dX10_need_70 : decode cX10_need 70 = .ok (.iload_n 1, 1) := by decide +kernel
theorem dX10_need_71 : decode cX10_need 71 = .ok (.iload_n 2, 1) := by decide +kernel
theorem dX10_need_72 : decode cX10_need 72 = .ok (.iload 4, 2) := by decide +kernel
theorem dX10_need_74 : decode cX10_need 74 = .ok (.iload 7, 2) := by decide +kernel
theorem dX10_need_76 : decode cX10_need 76 = .ok (.ior, 1) := by decide +kernel
theorem dX10_need_77 : decode cX10_need 77 = .ok (.invokevirtual 160, 3) := by decide +kernel
theorem dX10_need_80 : decode cX10_need 80 = .ok (.bipush (-9), 2) := by decide +kernel
theorem dX10_need_82 : decode cX10_need 82 = .ok (.if_icmp .eq 7, 3) := by decide +kernel
theorem dX10_need_85 : decode cX10_need 85 = .ok (.iload 7, 2) := by decide +kernel
theorem dX10_need_87 : decode cX10_need 87 = .ok (.istore 6, 2) := by decide +kernel
theorem dX10_need_89 : decode cX10_need 89 = .ok (.iinc 7 1, 3) := by decide +kernel
theorem dX10_need_92 : decode cX10_need 92 = .ok (.goto (-50), 3) := by decide +kernel
theorem dX10_need_95 : decode cX10_need 95 = .ok (.iload 6, 2) := by decide +kernel
theorem dX10_need_97 : decode cX10_need 97 = .ok (.ireturn, 1) := by decide +kernel
set_option maxRecDepth 20000 in
theorem ggX10_odds_X10_areTwo : GoodIn wsX10_odds wsX10_areTwo := goodIn_r _ [6, 7, 8, 9, 5, 10, 11, 12, 13, 14, 33, 34, 35, 36, 37, 38, 39, 40, 41, 42, 43, 44, 45, 46, 47, 48, 49, 50, 51, 52, 53, 54, 55, 56, 57, 58] (by decide +kernel) (by decide +kernel)
set_option maxRecDepth 20000 in
theorem gX10_odds_X10_areTwo : GoodIn wsX10_odds (wsV RX10 154 RX10 yX10_areTwo wsX10_areTwo) := goodIn_app (goodIn_of _ (by decide +kernel)) ggX10_odds_X10_areTwo
set_option maxRecDepth 20000 in
theorem ggX10_odds_X10_in : GoodIn wsX10_odds wsX10_in := goodIn_r _ [14] (by decide +kernel) (by decide +kernel)
set_option maxRecDepth 20000 in
theorem gX10_odds_X10_in : GoodIn wsX10_odds (va_wsS RX10 63 yX10_in wsX10_in) := goodIn_app (goodIn_of _ (by decide +kernel)) ggX10_odds_X10_in
set_option maxRecDepth 20000 in
theorem ggX10_odds_X10_openBy : GoodIn wsX10_odds wsX10_openBy := goodIn_r _ [18, 1, 19, 20, 21, 5, 22, 23, 33, 34, 35, 36, 37, 38, 39, 40, 41, 42, 43, 44, 45, 46, 47, 48, 49, 50, 51, 52, 53, 54, 55, 56, 57, 58] (by decide +kernel) (by decide +kernel)
set_option maxRecDepth 20000 in
theorem gX10_odds_X10_openBy : GoodIn wsX10_odds (wsV RX10 157 RX10 yX10_openBy wsX10_openBy) := goodIn_app (goodIn_of _ (by decide +kernel)) ggX10_odds_X10_openBy
set_option maxRecDepth 20000 in
theorem ggX10_odds_X10_has : GoodIn wsX10_odds wsX10_has := goodIn_r _ [26] (by decide +kernel) (by decide +kernel)
set_option maxRecDepth 20000 in
theorem gX10_odds_X10_has : GoodIn wsX10_odds (va_wsS RX10 151 yX10_has wsX10_has) := goodIn_app (goodIn_of _ (by decide +kernel)) ggX10_odds_X10_has
set_option maxRecDepth 20000 in
theorem ggX10_odds_X10_wayBy : GoodIn wsX10_odds wsX10_wayBy := goodIn_r _ [30, 1, 31, 32, 24, 25, 5, 26, 33, 34, 35, 36, 37, 38, 39, 40, 41, 42, 43, 44, 45, 46, 47, 48, 49, 50, 51, 52, 53, 54, 55, 56, 57, 58] (by decide +kernel) (by decide +kernel)
set_option maxRecDepth 20000 in
theorem gX10_odds_X10_wayBy : GoodIn wsX10_odds (wsV RX10 160 RX10 yX10_wayBy wsX10_wayBy) := goodIn_app (goodIn_of _ (by decide +kernel)) ggX10_odds_X10_wayBy
theorem dX10_odds_0 : decode cX10_odds 0 = .ok (.aload_n 0, 1) := by decide +kernel
theorem dX10_odds_1 : decode cX10_odds 1 = .ok (.iload_n 1, 1) := by decide +kernel
theorem dX10_odds_2 : decode cX10_odds 2 = .ok (.iload_n 2, 1) := by decide +kernel
theorem dX10_odds_3 : decode cX10_odds 3 = .ok (.invokevirtual 154, 3) := by decide +kernel
theorem dX10_odds_6 : decode cX10_odds 6 = .ok (.ifCond .eq 23, 3) := by decide +kernel
theorem dX10_odds_9 : decode cX10_odds 9 = .ok (.iload_n 3, 1) := by decide +kernel
theorem dX10_odds_10 : decode cX10_odds 10 = .ok (.iconst 0, 1) := by decide +kernel
theorem dX10_odds_11 : decode cX10_odds 11 = .ok (.bipush 10, 2) := by decide +kernel
theorem dX10_odds_13 : decode cX10_odds 13 = .ok (.invokestatic 63, 3) := by decide +kernel
theorem dX10_odds_16 : decode cX10_odds 16 = .ok (.ifCond .eq 13, 3) := by decide +kernel
theorem dX10_odds_19 : decode cX10_odds 19 = .ok (.iload 4, 2) := by decide +kernel
theorem dX10_odds_21 : decode cX10_odds 21 = .ok (.iconst 0, 1) := by decide +kernel
theorem dX10_odds_22 : decode cX10_odds 22 = .ok (.iconst 1, 1) := by decide +kernel
theorem dX10_odds_23 : decode cX10_odds 23 = .ok (.invokestatic 63, 3) := by decide +kernel
theorem dX10_odds_26 : decode cX10_odds 26 = .ok (.ifCond .ne 5, 3) := by decide +kernel
theorem dX10_odds_29 : decode cX10_odds 29 = .ok (.iconst (-1), 1) := by decide +kernel
theorem dX10_odds_30 : decode cX10_odds 30 = .ok (.ireturn, 1) := by decide +kernel
theorem dX10_odds_31 : decode cX10_odds 31 = .ok (.iconst 0, 1) := by decide +kernel
theorem dX10_odds_32 : decode cX10_odds 32 = .ok (.istore 5, 2) := by decide +kernel
theorem dX10_odds_34 : decode cX10_odds 34 = .ok (.iconst 1, 1) := by decide +kernel
theorem dX10_odds_35 : decode cX10_odds 35 = .ok (.istore 6, 2) := by decide +kernel
theorem dX10_odds_37 : decode cX10_odds 37 = .ok (.aload_n 0, 1) := by decide +kernel
theorem dX10_odds_38 : decode cX10_odds 38 = .ok (.iconst 0, 1) := by decide +kernel
theorem dX10_odds_39 : decode cX10_odds 39 = .ok (.invokevirtual 157, 3) := by decide +kernel
theorem dX10_odds_42 : decode cX10_odds 42 = .ok (.istore 7, 2) := by decide +kernel
theorem dX10_odds_44 : decode cX10_odds 44 = .ok (.iconst 0, 1) := by decide +kernel
theorem dX10_odds_45 : decode cX10_odds 45 = .ok (.istore 8, 2) := by decide +kernel
theorem dX10_odds_47 : decode cX10_odds 47 = .ok (.iload 8, 2) := by decide +kernel
theorem dX10_odds_49 : decode cX10_odds 49 = .ok (.iload 7, 2) := by decide +kernel
theorem dX10_odds_51 : decode cX10_odds 51 = .ok (.if_icmp .gt 89, 3) := by decide +kernel
theorem dX10_odds_54 : decode cX10_odds 54 = .ok (.iconst 1, 1) := by decide +kernel
theorem dX10_odds_55 : decode cX10_odds 55 = .ok (.istore 9, 2) := by decide +kernel
theorem dX10_odds_57 : decode cX10_odds 57 = .ok (.iconst 0, 1) := by decide +kernel
theorem dX10_odds_58 : decode cX10_odds 58 = .ok (.istore 10, 2) := by decide +kernel
theorem dX10_odds_60 : decode cX10_odds 60 = .ok (.iload 10, 2) := by decide +kernel
theorem dX10_odds_62 : decode cX10_odds 62 = .ok (.aload_n 0, 1) := by decide +kernel
theorem dX10_odds_63 : decode cX10_odds 63 = .ok (.getfield 17, 3) := by decide +kernel
theorem dX10_odds_66 : decode cX10_odds 66 = .ok (.iconst 0, 1) := by decide +kernel
theorem dX10_odds_67 : decode cX10_odds 67 = .ok (.iaload, 1) := by decide +kernel
theorem dX10_odds_68 : decode cX10_odds 68 = .ok (.if_icmp .ge 32, 3) := by decide +kernel
theorem dX10_odds_71 : decode cX10_odds 71 = .ok (.iload 9, 2) := by decide +kernel
theorem dX10_odds_73 : decode cX10_odds 73 = .ok (.iload 8, 2) := by decide +kernel
theorem dX10_odds_75 : decode cX10_odds 75 = .ok (.iload 10, 2) := by decide +kernel
theorem dX10_odds_77 : decode cX10_odds 77 = .ok (.invokestatic 151, 3) := by decide +kernel
theorem dX10_odds_80 : decode cX10_odds 80 = .ok (.ifCond .eq 7, 3) := by decide +kernel
theorem dX10_odds_83 : decode cX10_odds 83 = .ok (.iload_n 3, 1) := by decide +kernel
theorem dX10_odds_84 : decode cX10_odds 84 = .ok (.goto 7, 3) := by decide +kernel
theorem dX10_odds_87 : decode cX10_odds 87 = .ok (.bipush 10, 2) := by decide +kernel
theorem dX10_odds_89 : decode cX10_odds 89 = .ok (.iload_n 3, 1) := by decide +kernel
theorem dX10_odds_90 : decode cX10_odds 90 = .ok (.isub, 1) := by decide +kernel
theorem dX10_odds_91 : decode cX10_odds 91 = .ok (.imul, 1) := by decide +kernel
theorem dX10_odds_92 : decode cX10_odds 92 = .ok (.istore 9, 2) := by decide +kernel
theorem dX10_odds_94 : decode cX10_odds 94 = .ok (.iinc 10 1, 3) := by decide +kernel
theorem dX10_odds_97 : decode cX10_odds 97 = .ok (.goto (-37), 3) := by decide +kernel
theorem dX10_odds_100 : decode cX10_odds 100 = .ok (.iload 5, 2) := by decide +kernel
theorem dX10_odds_102 : decode cX10_odds 102 = .ok (.iload 9, 2) := by decide +kernel
theorem dX10_odds_104 : decode cX10_odds 104 = .ok (.ifCond .le 26, 3) := by decide +kernel
theorem dX10_odds_107 : decode cX10_odds 107 = .ok (.aload_n 0, 1) := by decide +kernel
theorem dX10_odds_108 : decode cX10_odds 108 = .ok (.iload_n 1, 1) := by decide +kernel
theorem dX10_odds_109 : decode cX10_odds 109 = .ok (.iload_n 2, 1) := by decide +kernel
theorem dX10_odds_110 : decode cX10_odds 110 = .ok (.iload 7, 2) := by decide +kernel
theorem dX10_odds_112 : decode cX10_odds 112 = .ok (.iload 8, 2) := by decide +kernel
theorem dX10_odds_114 : decode cX10_odds 114 = .ok (.iconst (-1), 1) := by decide +kernel
theorem dX10_odds_115 : decode cX10_odds 115 = .ok (.ixor, 1) := by decide +kernel
theorem dX10_odds_116 : decode cX10_odds 116 = .ok (.iand, 1) := by decide +kernel
theorem dX10_odds_117 : decode cX10_odds 117 = .ok (.invokevirtual 160, 3) := by decide +kernel
theorem dX10_odds_120 : decode cX10_odds 120 = .ok (.bipush (-9), 2) := by decide +kernel
theorem dX10_odds_122 : decode cX10_odds 122 = .ok (.if_icmp .eq 8, 3) := by decide +kernel
theorem dX10_odds_125 : decode cX10_odds 125 = .ok (.iload 9, 2) := by decide +kernel
theorem dX10_odds_127 : decode cX10_odds 127 = .ok (.goto 4, 3) := by decide +kernel
theorem dX10_odds_130 : decode cX10_odds 130 = .ok (.iconst 0, 1) := by decide +kernel
theorem dX10_odds_131 : decode cX10_odds 131 = .ok (.iadd, 1) := by decide +kernel
theorem dX10_odds_132 : decode cX10_odds 132 = .ok (.istore 5, 2) := by decide +kernel
theorem dX10_odds_134 : decode cX10_odds 134 = .ok (.iinc 8 1, 3) := by decide +kernel
theorem dX10_odds_137 : decode cX10_odds 137 = .ok (.goto (-90), 3) := by decide +kernel
theorem dX10_odds_140 : decode cX10_odds 140 = .ok (.iconst 0, 1) := by decide +kernel
theorem dX10_odds_141 : decode cX10_odds 141 = .ok (.istore 8, 2) := by decide +kernel
theorem dX10_odds_143 : decode cX10_odds 143 = .ok (.iload 8, 2) := by decide +kernel
theorem dX10_odds_145 : decode cX10_odds 145 = .ok (.aload_n 0, 1) := by decide +kernel
theorem dX10_odds_146 : decode cX10_odds 146 = .ok (.getfield 17, 3) := by decide +kernel
theorem dX10_odds_149 : decode cX10_odds 149 = .ok (.iconst 0, 1) := by decide +kernel
theorem dX10_odds_150 : decode cX10_odds 150 = .ok (.iaload, 1) := by decide +kernel
theorem dX10_odds_151 : decode cX10_odds 151 = .ok (.if_icmp .ge 16, 3) := by decide +kernel
theorem dX10_odds_154 : decode cX10_odds 154 = .ok (.iload 6, 2) := by decide +kernel
theorem dX10_odds_156 : decode cX10_odds 156 = .ok (.bipush 10, 2) := by decide +kernel
theorem dX10_odds_158 : decode cX10_odds 158 = .ok (.imul, 1) := by decide +kernel
theorem dX10_odds_159 : decode cX10_odds 159 = .ok (.istore 6, 2) := by decide +kernel
theorem dX10_odds_161 : decode cX10_odds 161 = .ok (.iinc 8 1, 3) := by decide +kernel
theorem dX10_odds_164 : decode cX10_odds 164 = .ok (.goto (-21), 3) := by decide +kernel
theorem dX10_odds_167 : decode cX10_odds 167 = .ok (.iload 5, 2) := by decide +kernel
theorem dX10_odds_169 : decode cX10_odds 169 = .ok (.istore 8, 2) := by decide +kernel
theorem dX10_odds_171 : decode cX10_odds 171 = .ok (.iload 6, 2) := by decide +kernel
theorem dX10_odds_173 : decode cX10_odds 173 = .ok (.istore 9, 2) := by decide +kernel
theorem dX10_odds_175 : decode cX10_odds 175 = .ok (.iload 9, 2) := by decide +kernel
theorem dX10_odds_177 : decode cX10_odds 177 = .ok (.ifCond .eq 21, 3) := by decide +kernel
theorem dX10_odds_180 : decode cX10_odds 180 = .ok (.iload 8, 2) := by decide +kernel
theorem dX10_odds_182 : decode cX10_odds 182 = .ok (.iload 9, 2) := by decide +kernel
theorem dX10_odds_184 : decode cX10_odds 184 = .ok (.irem, 1) := by decide +kernel
theorem dX10_odds_185 : decode cX10_odds 185 = .ok (.istore 10, 2) := by decide +kernel
theorem dX10_odds_187 : decode cX10_odds 187 = .ok (.iload 9, 2) := by decide +kernel
theorem dX10_odds_189 : decode cX10_odds 189 = .ok (.istore 8, 2) := by decide +kernel
theorem dX10_odds_191 : decode cX10_odds 191 = .ok (.iload 10, 2) := by decide +kernel
theorem dX10_odds_193 : decode cX10_odds 193 = .ok (.istore 9, 2) := by decide +kernel
theorem dX10_odds_195 : decode cX10_odds 195 = .ok (.goto (-20), 3) := by decide +kernel
theorem dX10_odds_198 : decode cX10_odds 198 = .ok (.iload 4, 2) := by decide +kernel
theorem dX10_odds_200 : decode cX10_odds 200 = .ok (.ifCond .ne 11, 3) := by decide +kernel
theorem dX10_odds_203 : decode cX10_odds 203 = .ok (.iload 5, 2) := by decide +kernel
theorem dX10_odds_205 : decode cX10_odds 205 = .ok (.iload 8, 2) := by decide +kernel
theorem dX10_odds_207 : decode cX10_odds 207 = .ok (.idiv, 1) := by decide +kernel
theorem dX10_odds_208 : decode cX10_odds 208 = .ok (.goto 8, 3) := by decide +kernel
theorem dX10_odds_211 : decode cX10_odds 211 = .ok (.iload 6, 2) := by decide +kernel
theorem dX10_odds_213 : decode cX10_odds 213 = .ok (.iload 8, 2) := by decide +kernel
theorem dX10_odds_215 : decode cX10_odds 215 = .ok (.idiv, 1) := by decide +kernel
theorem dX10_odds_216 : decode cX10_odds 216 = .ok (.ireturn, 1) := by decide +kernel
set_option maxRecDepth 20000 in
theorem ggX10_canHave_X10_widthOf : GoodIn wsX10_canHave wsX10_widthOf := goodIn_r _ [6, 7, 8, 9, 10, 11, 12, 13, 14, 15, 16, 17, 18, 19, 20, 21, 22, 23, 24, 25, 26, 27, 28, 29, 30, 31, 32, 33] (by decide +kernel) (by decide +kernel)
set_option maxRecDepth 20000 in
theorem gX10_canHave_X10_widthOf : GoodIn wsX10_canHave (wsV RX10 122 RX10 yX10_widthOf wsX10_widthOf) := goodIn_app (goodIn_of _ (by decide +kernel)) ggX10_canHave_X10_widthOf
theorem dX10_canHave_0 : decode cX10_canHave 0 = .ok (.aload_n 0, 1) := by decide +kernel
theorem dX10_canHave_1 : decode cX10_canHave 1 = .ok (.iload_n 2, 1) := by decide +kernel
theorem dX10_canHave_2 : decode cX10_canHave 2 = .ok (.invokevirtual 122, 3) := by decide +kernel
theorem dX10_canHave_5 : decode cX10_canHave 5 = .ok (.aload_n 0, 1) := by decide +kernel
theorem dX10_canHave_6 : decode cX10_canHave 6 = .ok (.getfield 35, 3) := by decide +kernel
theorem dX10_canHave_9 : decode cX10_canHave 9 = .ok (.iload_n 1, 1) := by decide +kernel
theorem dX10_canHave_10 : decode cX10_canHave 10 = .ok (.iaload, 1) := by decide +kernel
theorem dX10_canHave_11 : decode cX10_canHave 11 = .ok (.if_icmp .lt 7, 3) := by decide +kernel
theorem dX10_canHave_14 : decode cX10_canHave 14 = .ok (.iconst 1, 1) := by decide +kernel
theorem dX10_canHave_15 : decode cX10_canHave 15 = .ok (.goto 4, 3) := by decide +kernel
theorem dX10_canHave_18 : decode cX10_canHave 18 = .ok (.iconst 0, 1) := by decide +kernel
theorem dX10_canHave_19 : decode cX10_canHave 19 = .ok (.ireturn, 1) := by decide +kernel
set_option maxRecDepth 20000 in
theorem ggX10_tellMost_X10_has : GoodIn wsX10_tellMost wsX10_has := goodIn_r _ [7] (by decide +kernel) (by decide +kernel)
set_option maxRecDepth 20000 in
theorem gX10_tellMost_X10_has : GoodIn wsX10_tellMost (va_wsS RX10 151 yX10_has wsX10_has) := goodIn_app (goodIn_of _ (by decide +kernel)) ggX10_tellMost_X10_has
set_option maxRecDepth 20000 in
theorem ggX10_tellMost_X10_canHave : GoodIn wsX10_tellMost wsX10_canHave := goodIn_r _ [11, 12, 13, 14, 15, 6, 16, 17, 18, 19, 20, 21, 22, 23, 24, 25, 26, 27, 28, 29, 30, 31, 32, 33, 34, 35, 36, 37, 38, 39, 40, 41, 42, 43] (by decide +kernel) (by decide +kernel)
set_option maxRecDepth 20000 in
theorem gX10_tellMost_X10_canHave : GoodIn wsX10_tellMost (wsV RX10 167 RX10 yX10_canHave wsX10_canHave) := goodIn_app (goodIn_of _ (by decide +kernel)) ggX10_tellMost_X10_canHave
theorem dX10_tellMost_0 : decode cX10_tellMost 0 = .ok (.iconst 1, 1) := by decide +kernel
theorem dX10_tellMost_1 : decode cX10_tellMost 1 = .ok (.aload_n 0, 1) := by decide +kernel
theorem dX10_tellMost_2 : decode cX10_tellMost 2 = .ok (.getfield 17, 3) := by decide +kernel
theorem dX10_tellMost_5 : decode cX10_tellMost 5 = .ok (.iconst 0, 1) := by decide +kernel
theorem dX10_tellMost_6 : decode cX10_tellMost 6 = .ok (.iaload, 1) := by decide +kernel
theorem dX10_tellMost_7 : decode cX10_tellMost 7 = .ok (.ishl, 1) := by decide +kernel
theorem dX10_tellMost_8 : decode cX10_tellMost 8 = .ok (.istore_n 1, 1) := by decide +kernel
theorem dX10_tellMost_9 : decode cX10_tellMost 9 = .ok (.iconst 0, 1) := by decide +kernel
theorem dX10_tellMost_10 : decode cX10_tellMost 10 = .ok (.istore_n 2, 1) := by decide +kernel
theorem dX10_tellMost_11 : decode cX10_tellMost 11 = .ok (.iload_n 2, 1) := by decide +kernel
theorem dX10_tellMost_12 : decode cX10_tellMost 12 = .ok (.iload_n 1, 1) := by decide +kernel
theorem dX10_tellMost_13 : decode cX10_tellMost 13 = .ok (.if_icmp .ge 27, 3) := by decide +kernel
theorem dX10_tellMost_16 : decode cX10_tellMost 16 = .ok (.aload_n 0, 1) := by decide +kernel
theorem dX10_tellMost_17 : decode cX10_tellMost 17 = .ok (.getfield 54, 3) := by decide +kernel
theorem dX10_tellMost_20 : decode cX10_tellMost 20 = .ok (.sipush 512, 3) := by decide +kernel
theorem dX10_tellMost_23 : decode cX10_tellMost 23 = .ok (.aload_n 0, 1) := by decide +kernel
theorem dX10_tellMost_24 : decode cX10_tellMost 24 = .ok (.getfield 29, 3) := by decide +kernel
theorem dX10_tellMost_27 : decode cX10_tellMost 27 = .ok (.iconst 0, 1) := by decide +kernel
theorem dX10_tellMost_28 : decode cX10_tellMost 28 = .ok (.iaload, 1) := by decide +kernel
theorem dX10_tellMost_29 : decode cX10_tellMost 29 = .ok (.imul, 1) := by decide +kernel
theorem dX10_tellMost_30 : decode cX10_tellMost 30 = .ok (.iload_n 2, 1) := by decide +kernel
theorem dX10_tellMost_31 : decode cX10_tellMost 31 = .ok (.iadd, 1) := by decide +kernel
theorem dX10_tellMost_32 : decode cX10_tellMost 32 = .ok (.iconst 0, 1) := by decide +kernel
theorem dX10_tellMost_33 : decode cX10_tellMost 33 = .ok (.iastore, 1) := by decide +kernel
theorem dX10_tellMost_34 : decode cX10_tellMost 34 = .ok (.iinc 2 1, 3) := by decide +kernel
theorem dX10_tellMost_37 : decode cX10_tellMost 37 = .ok (.goto (-26), 3) := by decide +kernel
theorem dX10_tellMost_40 : decode cX10_tellMost 40 = .ok (.aload_n 0, 1) := by decide +kernel
theorem dX10_tellMost_41 : decode cX10_tellMost 41 = .ok (.getfield 29, 3) := by decide +kernel
theorem dX10_tellMost_44 : decode cX10_tellMost 44 = .ok (.iconst 0, 1) := by decide +kernel
theorem dX10_tellMost_45 : decode cX10_tellMost 45 = .ok (.iaload, 1) := by decide +kernel
theorem dX10_tellMost_46 : decode cX10_tellMost 46 = .ok (.iconst 1, 1) := by decide +kernel
theorem dX10_tellMost_47 : decode cX10_tellMost 47 = .ok (.isub, 1) := by decide +kernel
theorem dX10_tellMost_48 : decode cX10_tellMost 48 = .ok (.istore_n 2, 1) := by decide +kernel
theorem dX10_tellMost_49 : decode cX10_tellMost 49 = .ok (.iload_n 2, 1) := by decide +kernel
theorem dX10_tellMost_50 : decode cX10_tellMost 50 = .ok (.ifCond .lt 130, 3) := by decide +kernel
theorem dX10_tellMost_53 : decode cX10_tellMost 53 = .ok (.iconst 0, 1) := by decide +kernel
theorem dX10_tellMost_54 : decode cX10_tellMost 54 = .ok (.istore_n 3, 1) := by decide +kernel
theorem dX10_tellMost_55 : decode cX10_tellMost 55 = .ok (.iload_n 3, 1) := by decide +kernel
theorem dX10_tellMost_56 : decode cX10_tellMost 56 = .ok (.iload_n 1, 1) := by decide +kernel
theorem dX10_tellMost_57 : decode cX10_tellMost 57 = .ok (.if_icmp .ge 117, 3) := by decide +kernel
theorem dX10_tellMost_60 : decode cX10_tellMost 60 = .ok (.aload_n 0, 1) := by decide +kernel
theorem dX10_tellMost_61 : decode cX10_tellMost 61 = .ok (.getfield 54, 3) := by decide +kernel
theorem dX10_tellMost_64 : decode cX10_tellMost 64 = .ok (.sipush 512, 3) := by decide +kernel
theorem dX10_tellMost_67 : decode cX10_tellMost 67 = .ok (.iload_n 2, 1) := by decide +kernel
theorem dX10_tellMost_68 : decode cX10_tellMost 68 = .ok (.iconst 1, 1) := by decide +kernel
theorem dX10_tellMost_69 : decode cX10_tellMost 69 = .ok (.iadd, 1) := by decide +kernel
theorem dX10_tellMost_70 : decode cX10_tellMost 70 = .ok (.imul, 1) := by decide +kernel
theorem dX10_tellMost_71 : decode cX10_tellMost 71 = .ok (.iload_n 3, 1) := by decide +kernel
theorem dX10_tellMost_72 : decode cX10_tellMost 72 = .ok (.iadd, 1) := by decide +kernel
theorem dX10_tellMost_73 : decode cX10_tellMost 73 = .ok (.iaload, 1) := by decide +kernel
theorem dX10_tellMost_74 : decode cX10_tellMost 74 = .ok (.istore 4, 2) := by decide +kernel
theorem dX10_tellMost_76 : decode cX10_tellMost 76 = .ok (.iconst 0, 1) := by decide +kernel
theorem dX10_tellMost_77 : decode cX10_tellMost 77 = .ok (.istore 5, 2) := by decide +kernel
theorem dX10_tellMost_79 : decode cX10_tellMost 79 = .ok (.iload 5, 2) := by decide +kernel
theorem dX10_tellMost_81 : decode cX10_tellMost 81 = .ok (.aload_n 0, 1) := by decide +kernel
theorem dX10_tellMost_82 : decode cX10_tellMost 82 = .ok (.getfield 17, 3) := by decide +kernel
theorem dX10_tellMost_85 : decode cX10_tellMost 85 = .ok (.iconst 0, 1) := by decide +kernel
theorem dX10_tellMost_86 : decode cX10_tellMost 86 = .ok (.iaload, 1) := by decide +kernel
theorem dX10_tellMost_87 : decode cX10_tellMost 87 = .ok (.if_icmp .ge 67, 3) := by decide +kernel
theorem dX10_tellMost_90 : decode cX10_tellMost 90 = .ok (.iload_n 3, 1) := by decide +kernel
theorem dX10_tellMost_91 : decode cX10_tellMost 91 = .ok (.iload 5, 2) := by decide +kernel
theorem dX10_tellMost_93 : decode cX10_tellMost 93 = .ok (.invokestatic 151, 3) := by decide +kernel
theorem dX10_tellMost_96 : decode cX10_tellMost 96 = .ok (.ifCond .ne 52, 3) := by decide +kernel
theorem dX10_tellMost_99 : decode cX10_tellMost 99 = .ok (.aload_n 0, 1) := by decide +kernel
theorem dX10_tellMost_100 : decode cX10_tellMost 100 = .ok (.iload_n 2, 1) := by decide +kernel
theorem dX10_tellMost_101 : decode cX10_tellMost 101 = .ok (.iload 5, 2) := by decide +kernel
theorem dX10_tellMost_103 : decode cX10_tellMost 103 = .ok (.invokevirtual 167, 3) := by decide +kernel
theorem dX10_tellMost_106 : decode cX10_tellMost 106 = .ok (.ifCond .eq 42, 3) := by decide +kernel
theorem dX10_tellMost_109 : decode cX10_tellMost 109 = .ok (.iconst 1, 1) := by decide +kernel
theorem dX10_tellMost_110 : decode cX10_tellMost 110 = .ok (.aload_n 0, 1) := by decide +kernel
theorem dX10_tellMost_111 : decode cX10_tellMost 111 = .ok (.getfield 54, 3) := by decide +kernel
theorem dX10_tellMost_114 : decode cX10_tellMost 114 = .ok (.sipush 512, 3) := by decide +kernel
theorem dX10_tellMost_117 : decode cX10_tellMost 117 = .ok (.iload_n 2, 1) := by decide +kernel
theorem dX10_tellMost_118 : decode cX10_tellMost 118 = .ok (.iconst 1, 1) := by decide +kernel
theorem dX10_tellMost_119 : decode cX10_tellMost 119 = .ok (.iadd, 1) := by decide +kernel
theorem dX10_tellMost_120 : decode cX10_tellMost 120 = .ok (.imul, 1) := by decide +kernel
theorem dX10_tellMost_121 : decode cX10_tellMost 121 = .ok (.iload_n 3, 1) := by decide +kernel
theorem dX10_tellMost_122 : decode cX10_tellMost 122 = .ok (.iconst 1, 1) := by decide +kernel
theorem dX10_tellMost_123 : decode cX10_tellMost 123 = .ok (.iload 5, 2) := by decide +kernel
theorem dX10_tellMost_125 : decode cX10_tellMost 125 = .ok (.ishl, 1) := by decide +kernel
theorem dX10_tellMost_126 : decode cX10_tellMost 126 = .ok (.ior, 1) := by decide +kernel
theorem dX10_tellMost_127 : decode cX10_tellMost 127 = .ok (.iadd, 1) := by decide +kernel
theorem dX10_tellMost_128 : decode cX10_tellMost 128 = .ok (.iaload, 1) := by decide +kernel
theorem dX10_tellMost_129 : decode cX10_tellMost 129 = .ok (.iadd, 1) := by decide +kernel
theorem dX10_tellMost_130 : decode cX10_tellMost 130 = .ok (.istore 6, 2) := by decide +kernel
theorem dX10_tellMost_132 : decode cX10_tellMost 132 = .ok (.iload 6, 2) := by decide +kernel
theorem dX10_tellMost_134 : decode cX10_tellMost 134 = .ok (.iload 4, 2) := by decide +kernel
theorem dX10_tellMost_136 : decode cX10_tellMost 136 = .ok (.if_icmp .le 8, 3) := by decide +kernel
theorem dX10_tellMost_139 : decode cX10_tellMost 139 = .ok (.iload 6, 2) := by decide +kernel
theorem dX10_tellMost_141 : decode cX10_tellMost 141 = .ok (.goto 5, 3) := by decide +kernel
theorem dX10_tellMost_144 : decode cX10_tellMost 144 = .ok (.iload 4, 2) := by decide +kernel
theorem dX10_tellMost_146 : decode cX10_tellMost 146 = .ok (.istore 4, 2) := by decide +kernel
theorem dX10_tellMost_148 : decode cX10_tellMost 148 = .ok (.iinc 5 1, 3) := by decide +kernel
theorem dX10_tellMost_151 : decode cX10_tellMost 151 = .ok (.goto (-72), 3) := by decide +kernel
theorem dX10_tellMost_154 : decode cX10_tellMost 154 = .ok (.aload_n 0, 1) := by decide +kernel
theorem dX10_tellMost_155 : decode cX10_tellMost 155 = .ok (.getfield 54, 3) := by decide +kernel
theorem dX10_tellMost_158 : decode cX10_tellMost 158 = .ok (.sipush 512, 3) := by decide +kernel
theorem dX10_tellMost_161 : decode cX10_tellMost 161 = .ok (.iload_n 2, 1) := by decide +kernel
theorem dX10_tellMost_162 : decode cX10_tellMost 162 = .ok (.imul, 1) := by decide +kernel
theorem dX10_tellMost_163 : decode cX10_tellMost 163 = .ok (.iload_n 3, 1) := by decide +kernel
theorem dX10_tellMost_164 : decode cX10_tellMost 164 = .ok (.iadd, 1) := by decide +kernel
theorem dX10_tellMost_165 : decode cX10_tellMost 165 = .ok (.iload 4, 2) := by decide +kernel
theorem dX10_tellMost_167 : decode cX10_tellMost 167 = .ok (.iastore, 1) := by decide +kernel
theorem dX10_tellMost_168 : decode cX10_tellMost 168 = .ok (.iinc 3 1, 3) := by decide +kernel
theorem dX10_tellMost_171 : decode cX10_tellMost 171 = .ok (.goto (-116), 3) := by decide +kernel
theorem dX10_tellMost_174 : decode cX10_tellMost 174 = .ok (.iinc 2 (-1), 3) := by decide +kernel
theorem dX10_tellMost_177 : decode cX10_tellMost 177 = .ok (.goto (-128), 3) := by decide +kernel
theorem dX10_tellMost_180 : decode cX10_tellMost 180 = .ok (.return_, 1) := by decide +kernel
set_option maxRecDepth 20000 in
theorem ggX10_carriage_X10_isPerson : GoodIn wsX10_carriage wsX10_isPerson := goodIn_r _ [7, 8, 9, 10, 6, 11, 29, 30, 31, 32, 33, 34, 35, 36, 37, 38, 39, 40, 41, 42, 43, 44, 45, 46, 47, 48, 49, 50, 51, 52, 53, 54] (by decide +kernel) (by decide +kernel)
set_option maxRecDepth 20000 in
theorem gX10_carriage_X10_isPerson : GoodIn wsX10_carriage (wsV RX10 136 RX10 yX10_isPerson wsX10_isPerson) := goodIn_app (goodIn_of _ (by decide +kernel)) ggX10_carriage_X10_isPerson
set_option maxRecDepth 20000 in
theorem ggX10_carriage_X10_tellMost : GoodIn wsX10_carriage wsX10_tellMost := goodIn_r _ [15, 2, 1, 8, 16, 17, 6, 18, 19, 20, 21, 22, 23, 24, 25, 26, 27, 28, 29, 30, 31, 32, 33, 34, 35, 36, 37, 38, 39, 40, 41, 42, 43, 44, 45, 46, 47, 48, 49, 50, 51, 52, 53, 54] (by decide +kernel) (by decide +kernel)
set_option maxRecDepth 20000 in
theorem gX10_carriage_X10_tellMost : GoodIn wsX10_carriage (wsV RX10 170 RX10 yX10_tellMost wsX10_tellMost) := goodIn_app (goodIn_of _ (by decide +kernel)) ggX10_carriage_X10_tellMost
set_option maxRecDepth 20000 in
theorem ggX10_carriage_X10_has : GoodIn wsX10_carriage wsX10_has := goodIn_r _ [18] (by decide +kernel) (by decide +kernel)
set_option maxRecDepth 20000 in
theorem gX10_carriage_X10_has : GoodIn wsX10_carriage (va_wsS RX10 151 yX10_has wsX10_has) := goodIn_app (goodIn_of _ (by decide +kernel)) ggX10_carriage_X10_has
set_option maxRecDepth 20000 in
theorem ggX10_carriage_X10_canHave : GoodIn wsX10_carriage wsX10_canHave := goodIn_r _ [22, 23, 24, 25, 26, 6, 27, 28, 29, 30, 31, 32, 33, 34, 35, 36, 37, 38, 39, 40, 41, 42, 43, 44, 45, 46, 47, 48, 49, 50, 51, 52, 53, 54] (by decide +kernel) (by decide +kernel)
set_option maxRecDepth 20000 in
theorem gX10_carriage_X10_canHave : GoodIn wsX10_carriage (wsV RX10 167 RX10 yX10_canHave wsX10_canHave) := goodIn_app (goodIn_of _ (by decide +kernel)) ggX10_carriage_X10_canHave
theorem dX10_carriage_0 : decode cX10_carriage 0 = .ok (.iload_n 1, 1) := by decide +kernel
theorem dX10_carriage_1 : decode cX10_carriage 1 = .ok (.iconst (-1), 1) := by decide +kernel
theorem dX10_carriage_2 : decode cX10_carriage 2 = .ok (.if_icmp .eq 13, 3) := by decide +kernel
theorem dX10_carriage_5 : decode cX10_carriage 5 = .ok (.aload_n 0, 1) := by decide +kernel
theorem dX10_carriage_6 : decode cX10_carriage 6 = .ok (.iload_n 1, 1) := by decide +kernel
theorem dX10_carriage_7 : decode cX10_carriage 7 = .ok (.invokevirtual 136, 3) := by decide +kernel
theorem dX10_carriage_10 : decode cX10_carriage 10 = .ok (.ifCond .ne 5, 3) := by decide +kernel
theorem dX10_carriage_13 : decode cX10_carriage 13 = .ok (.iconst (-1), 1) := by decide +kernel
theorem dX10_carriage_14 : decode cX10_carriage 14 = .ok (.ireturn, 1) := by decide +kernel
theorem dX10_carriage_15 : decode cX10_carriage 15 = .ok (.aload_n 0, 1) := by decide +kernel
theorem dX10_carriage_16 : decode cX10_carriage 16 = .ok (.invokevirtual 170, 3) := by decide +kernel
theorem dX10_carriage_19 : decode cX10_carriage 19 = .ok (.iload_n 1, 1) := by decide +kernel
theorem dX10_carriage_20 : decode cX10_carriage 20 = .ok (.iconst (-1), 1) := by decide +kernel
theorem dX10_carriage_21 : decode cX10_carriage 21 = .ok (.if_icmp .ne 10, 3) := by decide +kernel
theorem dX10_carriage_24 : decode cX10_carriage 24 = .ok (.aload_n 0, 1) := by decide +kernel
theorem dX10_carriage_25 : decode cX10_carriage 25 = .ok (.getfield 54, 3) := by decide +kernel
theorem dX10_carriage_28 : decode cX10_carriage 28 = .ok (.iconst 0, 1) := by decide +kernel
theorem dX10_carriage_29 : decode cX10_carriage 29 = .ok (.iaload, 1) := by decide +kernel
theorem dX10_carriage_30 : decode cX10_carriage 30 = .ok (.ireturn, 1) := by decide +kernel
theorem dX10_carriage_31 : decode cX10_carriage 31 = .ok (.iconst 0, 1) := by decide +kernel
theorem dX10_carriage_32 : decode cX10_carriage 32 = .ok (.istore_n 2, 1) := by decide +kernel
theorem dX10_carriage_33 : decode cX10_carriage 33 = .ok (.bipush (-9), 2) := by decide +kernel
theorem dX10_carriage_35 : decode cX10_carriage 35 = .ok (.istore_n 3, 1) := by decide +kernel
theorem dX10_carriage_36 : decode cX10_carriage 36 = .ok (.iconst 0, 1) := by decide +kernel
theorem dX10_carriage_37 : decode cX10_carriage 37 = .ok (.istore 4, 2) := by decide +kernel
theorem dX10_carriage_39 : decode cX10_carriage 39 = .ok (.iload 4, 2) := by decide +kernel
theorem dX10_carriage_41 : decode cX10_carriage 41 = .ok (.iload_n 1, 1) := by decide +kernel
theorem dX10_carriage_42 : decode cX10_carriage 42 = .ok (.if_icmp .gt 126, 3) := by decide +kernel
theorem dX10_carriage_45 : decode cX10_carriage 45 = .ok (.bipush (-9), 2) := by decide +kernel
theorem dX10_carriage_47 : decode cX10_carriage 47 = .ok (.istore_n 3, 1) := by decide +kernel
theorem dX10_carriage_48 : decode cX10_carriage 48 = .ok (.aload_n 0, 1) := by decide +kernel
theorem dX10_carriage_49 : decode cX10_carriage 49 = .ok (.getfield 17, 3) := by decide +kernel
theorem dX10_carriage_52 : decode cX10_carriage 52 = .ok (.iconst 0, 1) := by decide +kernel
theorem dX10_carriage_53 : decode cX10_carriage 53 = .ok (.iaload, 1) := by decide +kernel
theorem dX10_carriage_54 : decode cX10_carriage 54 = .ok (.iconst 1, 1) := by decide +kernel
theorem dX10_carriage_55 : decode cX10_carriage 55 = .ok (.isub, 1) := by decide +kernel
theorem dX10_carriage_56 : decode cX10_carriage 56 = .ok (.istore 5, 2) := by decide +kernel
theorem dX10_carriage_58 : decode cX10_carriage 58 = .ok (.iload 5, 2) := by decide +kernel
theorem dX10_carriage_60 : decode cX10_carriage 60 = .ok (.ifCond .lt 86, 3) := by decide +kernel
theorem dX10_carriage_63 : decode cX10_carriage 63 = .ok (.iload_n 2, 1) := by decide +kernel
theorem dX10_carriage_64 : decode cX10_carriage 64 = .ok (.iload 5, 2) := by decide +kernel
theorem dX10_carriage_66 : decode cX10_carriage 66 = .ok (.invokestatic 151, 3) := by decide +kernel
theorem dX10_carriage_69 : decode cX10_carriage 69 = .ok (.ifCond .ne 18, 3) := by decide +kernel
theorem dX10_carriage_72 : decode cX10_carriage 72 = .ok (.aload_n 0, 1) := by decide +kernel
theorem dX10_carriage_73 : decode cX10_carriage 73 = .ok (.iload 4, 2) := by decide +kernel
theorem dX10_carriage_75 : decode cX10_carriage 75 = .ok (.iload 5, 2) := by decide +kernel
theorem dX10_carriage_77 : decode cX10_carriage 77 = .ok (.invokevirtual 167, 3) := by decide +kernel
theorem dX10_carriage_80 : decode cX10_carriage 80 = .ok (.ifCond .eq 7, 3) := by decide +kernel
theorem dX10_carriage_83 : decode cX10_carriage 83 = .ok (.iconst 1, 1) := by decide +kernel
theorem dX10_carriage_84 : decode cX10_carriage 84 = .ok (.goto 4, 3) := by decide +kernel
theorem dX10_carriage_87 : decode cX10_carriage 87 = .ok (.iconst 0, 1) := by decide +kernel
theorem dX10_carriage_88 : decode cX10_carriage 88 = .ok (.istore 6, 2) := by decide +kernel
theorem dX10_carriage_90 : decode cX10_carriage 90 = .ok (.iload 6, 2) := by decide +kernel
theorem dX10_carriage_92 : decode cX10_carriage 92 = .ok (.ifCond .eq 46, 3) := by decide +kernel
theorem dX10_carriage_95 : decode cX10_carriage 95 = .ok (.iconst 1, 1) := by decide +kernel
theorem dX10_carriage_96 : decode cX10_carriage 96 = .ok (.aload_n 0, 1) := by decide +kernel
theorem dX10_carriage_97 : decode cX10_carriage 97 = .ok (.getfield 54, 3) := by decide +kernel
theorem dX10_carriage_100 : decode cX10_carriage 100 = .ok (.sipush 512, 3) := by decide +kernel
theorem dX10_carriage_103 : decode cX10_carriage 103 = .ok (.iload 4, 2) := by decide +kernel
theorem dX10_carriage_105 : decode cX10_carriage 105 = .ok (.iconst 1, 1) := by decide +kernel
theorem dX10_carriage_106 : decode cX10_carriage 106 = .ok (.iadd, 1) := by decide +kernel
theorem dX10_carriage_107 : decode cX10_carriage 107 = .ok (.imul, 1) := by decide +kernel
theorem dX10_carriage_108 : decode cX10_carriage 108 = .ok (.iload_n 2, 1) := by decide +kernel
theorem dX10_carriage_109 : decode cX10_carriage 109 = .ok (.iconst 1, 1) := by decide +kernel
theorem dX10_carriage_110 : decode cX10_carriage 110 = .ok (.iload 5, 2) := by decide +kernel
theorem dX10_carriage_112 : decode cX10_carriage 112 = .ok (.ishl, 1) := by decide +kernel
theorem dX10_carriage_113 : decode cX10_carriage 113 = .ok (.ior, 1) := by decide +kernel
theorem dX10_carriage_114 : decode cX10_carriage 114 = .ok (.iadd, 1) := by decide +kernel
theorem dX10_carriage_115 : decode cX10_carriage 115 = .ok (.iaload, 1) := by decide +kernel
theorem dX10_carriage_116 : decode cX10_carriage 116 = .ok (.iadd, 1) := by decide +kernel
theorem dX10_carriage_117 : decode cX10_carriage 117 = .ok (.aload_n 0, 1) := by decide +kernel
theorem dX10_carriage_118 : decode cX10_carriage 118 = .ok (.getfield 54, 3) := by decide +kernel
theorem dX10_carriage_121 : decode cX10_carriage 121 = .ok (.sipush 512, 3) := by decide +kernel
theorem dX10_carriage_124 : decode cX10_carriage 124 = .ok (.iload 4, 2) := by decide +kernel
theorem dX10_carriage_126 : decode cX10_carriage 126 = .ok (.imul, 1) := by decide +kernel
theorem dX10_carriage_127 : decode cX10_carriage 127 = .ok (.iload_n 2, 1) := by decide +kernel
theorem dX10_carriage_128 : decode cX10_carriage 128 = .ok (.iadd, 1) := by decide +kernel
theorem dX10_carriage_129 : decode cX10_carriage 129 = .ok (.iaload, 1) := by decide +kernel
theorem dX10_carriage_130 : decode cX10_carriage 130 = .ok (.if_icmp .ne 8, 3) := by decide +kernel
theorem dX10_carriage_133 : decode cX10_carriage 133 = .ok (.iload 5, 2) := by decide +kernel
theorem dX10_carriage_135 : decode cX10_carriage 135 = .ok (.goto 4, 3) := by decide +kernel
theorem dX10_carriage_138 : decode cX10_carriage 138 = .ok (.iload_n 3, 1) := by decide +kernel
theorem dX10_carriage_139 : decode cX10_carriage 139 = .ok (.istore_n 3, 1) := by decide +kernel
theorem dX10_carriage_140 : decode cX10_carriage 140 = .ok (.iinc 5 (-1), 3) := by decide +kernel
theorem dX10_carriage_143 : decode cX10_carriage 143 = .ok (.goto (-85), 3) := by decide +kernel
theorem dX10_carriage_146 : decode cX10_carriage 146 = .ok (.iload_n 2, 1) := by decide +kernel
theorem dX10_carriage_147 : decode cX10_carriage 147 = .ok (.iload_n 3, 1) := by decide +kernel
theorem dX10_carriage_148 : decode cX10_carriage 148 = .ok (.bipush (-9), 2) := by decide +kernel
theorem dX10_carriage_150 : decode cX10_carriage 150 = .ok (.if_icmp .ne 7, 3) := by decide +kernel
theorem dX10_carriage_153 : decode cX10_carriage 153 = .ok (.iconst 0, 1) := by decide +kernel
theorem dX10_carriage_154 : decode cX10_carriage 154 = .ok (.goto 6, 3) := by decide +kernel
theorem dX10_carriage_157 : decode cX10_carriage 157 = .ok (.iconst 1, 1) := by decide +kernel
theorem dX10_carriage_158 : decode cX10_carriage 158 = .ok (.iload_n 3, 1) := by decide +kernel
theorem dX10_carriage_159 : decode cX10_carriage 159 = .ok (.ishl, 1) := by decide +kernel
theorem dX10_carriage_160 : decode cX10_carriage 160 = .ok (.ior, 1) := by decide +kernel
theorem dX10_carriage_161 : decode cX10_carriage 161 = .ok (.istore_n 2, 1) := by decide +kernel
theorem dX10_carriage_162 : decode cX10_carriage 162 = .ok (.iinc 4 1, 3) := by decide +kernel
theorem dX10_carriage_165 : decode cX10_carriage 165 = .ok (.goto (-126), 3) := by decide +kernel
theorem dX10_carriage_168 : decode cX10_carriage 168 = .ok (.iload_n 3, 1) := by decide +kernel
theorem dX10_carriage_169 : decode cX10_carriage 169 = .ok (.ireturn, 1) := by decide +kernel
set_option maxRecDepth 20000 in
theorem ggX10_measures_X10_in : GoodIn wsX10_measures wsX10_in := goodIn_r _ [7] (by decide +kernel) (by decide +kernel)
set_option maxRecDepth 20000 in
theorem gX10_measures_X10_in : GoodIn wsX10_measures (va_wsS RX10 63 yX10_in wsX10_in) := goodIn_app (goodIn_of _ (by decide +kernel)) ggX10_measures_X10_in
theorem dX10_measures_0 : decode cX10_measures 0 = .ok (.iload_n 1, 1) := by decide +kernel
theorem dX10_measures_1 : decode cX10_measures 1 = .ok (.iconst 1, 1) := by decide +kernel
theorem dX10_measures_2 : decode cX10_measures 2 = .ok (.bipush 10, 2) := by decide +kernel
theorem dX10_measures_4 : decode cX10_measures 4 = .ok (.invokestatic 63, 3) := by decide +kernel
theorem dX10_measures_7 : decode cX10_measures 7 = .ok (.ifCond .eq 12, 3) := by decide +kernel
theorem dX10_measures_10 : decode cX10_measures 10 = .ok (.iload_n 2, 1) := by decide +kernel
theorem dX10_measures_11 : decode cX10_measures 11 = .ok (.iconst 0, 1) := by decide +kernel
theorem dX10_measures_12 : decode cX10_measures 12 = .ok (.iconst 1, 1) := by decide +kernel
theorem dX10_measures_13 : decode cX10_measures 13 = .ok (.invokestatic 63, 3) := by decide +kernel
theorem dX10_measures_16 : decode cX10_measures 16 = .ok (.ifCond .ne 5, 3) := by decide +kernel
theorem dX10_measures_19 : decode cX10_measures 19 = .ok (.iconst (-1), 1) := by decide +kernel
theorem dX10_measures_20 : decode cX10_measures 20 = .ok (.ireturn, 1) := by decide +kernel
theorem dX10_measures_21 : decode cX10_measures 21 = .ok (.aload_n 0, 1) := by decide +kernel
theorem dX10_measures_22 : decode cX10_measures 22 = .ok (.getfield 116, 3) := by decide +kernel
theorem dX10_measures_25 : decode cX10_measures 25 = .ok (.iconst 4, 1) := by decide +kernel
theorem dX10_measures_26 : decode cX10_measures 26 = .ok (.if_icmp .ne 6, 3) := by decide +kernel
theorem dX10_measures_29 : decode cX10_measures 29 = .ok (.bipush (-3), 2) := by decide +kernel
theorem dX10_measures_31 : decode cX10_measures 31 = .ok (.ireturn, 1) := by decide +kernel
theorem dX10_measures_32 : decode cX10_measures 32 = .ok (.aload_n 0, 1) := by decide +kernel
theorem dX10_measures_33 : decode cX10_measures 33 = .ok (.getfield 57, 3) := by decide +kernel
theorem dX10_measures_36 : decode cX10_measures 36 = .ok (.aload_n 0, 1) := by decide +kernel
theorem dX10_measures_37 : decode cX10_measures 37 = .ok (.getfield 116, 3) := by decide +kernel
theorem dX10_measures_40 : decode cX10_measures 40 = .ok (.iload_n 1, 1) := by decide +kernel
theorem dX10_measures_41 : decode cX10_measures 41 = .ok (.iastore, 1) := by decide +kernel
theorem dX10_measures_42 : decode cX10_measures 42 = .ok (.aload_n 0, 1) := by decide +kernel
theorem dX10_measures_43 : decode cX10_measures 43 = .ok (.getfield 60, 3) := by decide +kernel
theorem dX10_measures_46 : decode cX10_measures 46 = .ok (.aload_n 0, 1) := by decide +kernel
theorem dX10_measures_47 : decode cX10_measures 47 = .ok (.getfield 116, 3) := by decide +kernel
theorem dX10_measures_50 : decode cX10_measures 50 = .ok (.iload_n 2, 1) := by decide +kernel
theorem dX10_measures_51 : decode cX10_measures 51 = .ok (.iastore, 1) := by decide +kernel
theorem dX10_measures_52 : decode cX10_measures 52 = .ok (.aload_n 0, 1) := by decide +kernel
theorem dX10_measures_53 : decode cX10_measures 53 = .ok (.dup, 1) := by decide +kernel
theorem dX10_measures_54 : decode cX10_measures 54 = .ok (.getfield 116, 3) := by decide +kernel
theorem dX10_measures_57 : decode cX10_measures 57 = .ok (.iconst 1, 1) := by decide +kernel
theorem dX10_measures_58 : decode cX10_measures 58 = .ok (.iadd, 1) := by decide +kernel
theorem dX10_measures_59 : decode cX10_measures 59 = .ok (.putfield 116, 3) := by decide +kernel
theorem dX10_measures_62 : decode cX10_measures 62 = .ok (.aload_n 0, 1) := by decide +kernel
theorem dX10_measures_63 : decode cX10_measures 63 = .ok (.getfield 116, 3) := by decide +kernel
theorem dX10_measures_66 : decode cX10_measures 66 = .ok (.ireturn, 1) := by decide +kernel
theorem dX10_forget_0 : decode cX10_forget 0 = .ok (.aload_n 0, 1) := by decide +kernel
theorem dX10_forget_1 : decode cX10_forget 1 = .ok (.getfield 116, 3) := by decide +kernel
theorem dX10_forget_4 : decode cX10_forget 4 = .ok (.istore_n 1, 1) := by decide +kernel
theorem dX10_forget_5 : decode cX10_forget 5 = .ok (.aload_n 0, 1) := by decide +kernel
theorem dX10_forget_6 : decode cX10_forget 6 = .ok (.iconst 0, 1) := by decide +kernel
theorem dX10_forget_7 : decode cX10_forget 7 = .ok (.putfield 116, 3) := by decide +kernel
theorem dX10_forget_10 : decode cX10_forget 10 = .ok (.iload_n 1, 1) := by decide +kernel
theorem dX10_forget_11 : decode cX10_forget 11 = .ok (.ireturn, 1) := by decide +kernel
theorem dX10_widthBy_0 : decode cX10_widthBy 0 = .ok (.iload_n 0, 1) := by decide +kernel
theorem dX10_widthBy_1 : decode cX10_widthBy 1 = .ok (.bipush 10, 2) := by decide +kernel
theorem dX10_widthBy_3 : decode cX10_widthBy 3 = .ok (.idiv, 1) := by decide +kernel
theorem dX10_widthBy_4 : decode cX10_widthBy 4 = .ok (.istore_n 2, 1) := by decide +kernel
theorem dX10_widthBy_5 : decode cX10_widthBy 5 = .ok (.iload_n 1, 1) := by decide +kernel
theorem dX10_widthBy_6 : decode cX10_widthBy 6 = .ok (.iconst 1, 1) := by decide +kernel
theorem dX10_widthBy_7 : decode cX10_widthBy 7 = .ok (.if_icmp .ne 7, 3) := by decide +kernel
theorem dX10_widthBy_10 : decode cX10_widthBy 10 = .ok (.iconst 0, 1) := by decide +kernel
theorem dX10_widthBy_11 : decode cX10_widthBy 11 = .ok (.goto 7, 3) := by decide +kernel
theorem dX10_widthBy_14 : decode cX10_widthBy 14 = .ok (.iload_n 0, 1) := by decide +kernel
theorem dX10_widthBy_15 : decode cX10_widthBy 15 = .ok (.bipush 10, 2) := by decide +kernel
theorem dX10_widthBy_17 : decode cX10_widthBy 17 = .ok (.irem, 1) := by decide +kernel
theorem dX10_widthBy_18 : decode cX10_widthBy 18 = .ok (.istore_n 3, 1) := by decide +kernel
theorem dX10_widthBy_19 : decode cX10_widthBy 19 = .ok (.iconst 1, 1) := by decide +kernel
theorem dX10_widthBy_20 : decode cX10_widthBy 20 = .ok (.iload_n 2, 1) := by decide +kernel
theorem dX10_widthBy_21 : decode cX10_widthBy 21 = .ok (.iload_n 3, 1) := by decide +kernel
theorem dX10_widthBy_22 : decode cX10_widthBy 22 = .ok (.if_icmp .le 7, 3) := by decide +kernel
theorem dX10_widthBy_25 : decode cX10_widthBy 25 = .ok (.iload_n 2, 1) := by decide +kernel
theorem dX10_widthBy_26 : decode cX10_widthBy 26 = .ok (.goto 4, 3) := by decide +kernel
theorem dX10_widthBy_29 : decode cX10_widthBy 29 = .ok (.iload_n 3, 1) := by decide +kernel
theorem dX10_widthBy_30 : decode cX10_widthBy 30 = .ok (.iadd, 1) := by decide +kernel
theorem dX10_widthBy_31 : decode cX10_widthBy 31 = .ok (.ireturn, 1) := by decide +kernel
set_option maxRecDepth 20000 in
theorem ggX10_isSo_X10_widthBy : GoodIn wsX10_isSo wsX10_widthBy := goodIn_r _ [7] (by decide +kernel) (by decide +kernel)
set_option maxRecDepth 20000 in
theorem gX10_isSo_X10_widthBy : GoodIn wsX10_isSo (va_wsS RX10 173 yX10_widthBy wsX10_widthBy) := goodIn_app (goodIn_of _ (by decide +kernel)) ggX10_isSo_X10_widthBy
theorem dX10_isSo_0 : decode cX10_isSo 0 = .ok (.iconst 1, 1) := by decide +kernel
theorem dX10_isSo_1 : decode cX10_isSo 1 = .ok (.istore_n 2, 1) := by decide +kernel
theorem dX10_isSo_2 : decode cX10_isSo 2 = .ok (.iconst 0, 1) := by decide +kernel
theorem dX10_isSo_3 : decode cX10_isSo 3 = .ok (.istore_n 3, 1) := by decide +kernel
theorem dX10_isSo_4 : decode cX10_isSo 4 = .ok (.iload_n 3, 1) := by decide +kernel
theorem dX10_isSo_5 : decode cX10_isSo 5 = .ok (.aload_n 0, 1) := by decide +kernel
theorem dX10_isSo_6 : decode cX10_isSo 6 = .ok (.getfield 116, 3) := by decide +kernel
theorem dX10_isSo_9 : decode cX10_isSo 9 = .ok (.if_icmp .ge 38, 3) := by decide +kernel
theorem dX10_isSo_12 : decode cX10_isSo 12 = .ok (.iload_n 2, 1) := by decide +kernel
theorem dX10_isSo_13 : decode cX10_isSo 13 = .ok (.ifCond .eq 26, 3) := by decide +kernel
theorem dX10_isSo_16 : decode cX10_isSo 16 = .ok (.iload_n 1, 1) := by decide +kernel
theorem dX10_isSo_17 : decode cX10_isSo 17 = .ok (.aload_n 0, 1) := by decide +kernel
theorem dX10_isSo_18 : decode cX10_isSo 18 = .ok (.getfield 60, 3) := by decide +kernel
theorem dX10_isSo_21 : decode cX10_isSo 21 = .ok (.iload_n 3, 1) := by decide +kernel
theorem dX10_isSo_22 : decode cX10_isSo 22 = .ok (.iaload, 1) := by decide +kernel
theorem dX10_isSo_23 : decode cX10_isSo 23 = .ok (.invokestatic 173, 3) := by decide +kernel
theorem dX10_isSo_26 : decode cX10_isSo 26 = .ok (.aload_n 0, 1) := by decide +kernel
theorem dX10_isSo_27 : decode cX10_isSo 27 = .ok (.getfield 57, 3) := by decide +kernel
theorem dX10_isSo_30 : decode cX10_isSo 30 = .ok (.iload_n 3, 1) := by decide +kernel
theorem dX10_isSo_31 : decode cX10_isSo 31 = .ok (.iaload, 1) := by decide +kernel
theorem dX10_isSo_32 : decode cX10_isSo 32 = .ok (.if_icmp .ne 7, 3) := by decide +kernel
theorem dX10_isSo_35 : decode cX10_isSo 35 = .ok (.iconst 1, 1) := by decide +kernel
theorem dX10_isSo_36 : decode cX10_isSo 36 = .ok (.goto 4, 3) := by decide +kernel
theorem dX10_isSo_39 : decode cX10_isSo 39 = .ok (.iconst 0, 1) := by decide +kernel
theorem dX10_isSo_40 : decode cX10_isSo 40 = .ok (.istore_n 2, 1) := by decide +kernel
theorem dX10_isSo_41 : decode cX10_isSo 41 = .ok (.iinc 3 1, 3) := by decide +kernel
theorem dX10_isSo_44 : decode cX10_isSo 44 = .ok (.goto (-40), 3) := by decide +kernel
theorem dX10_isSo_47 : decode cX10_isSo 47 = .ok (.iload_n 2, 1) := by decide +kernel
theorem dX10_isSo_48 : decode cX10_isSo 48 = .ok (.ireturn, 1) := by decide +kernel
set_option maxRecDepth 20000 in
theorem ggX10_deeds_X10_in : GoodIn wsX10_deeds wsX10_in := goodIn_r _ [4] (by decide +kernel) (by decide +kernel)
set_option maxRecDepth 20000 in
theorem gX10_deeds_X10_in : GoodIn wsX10_deeds (va_wsS RX10 63 yX10_in wsX10_in) := goodIn_app (goodIn_of _ (by decide +kernel)) ggX10_deeds_X10_in
set_option maxRecDepth 20000 in
theorem ggX10_deeds_X10_isSo : GoodIn wsX10_deeds wsX10_isSo := goodIn_r _ [8, 9, 10, 11, 12, 13, 3, 14, 15, 16, 17, 18, 19, 20, 21, 22, 23, 24, 25, 26, 27, 28, 29, 30, 31, 32, 33, 34, 35, 36, 37, 38, 39, 40] (by decide +kernel) (by decide +kernel)
set_option maxRecDepth 20000 in
theorem gX10_deeds_X10_isSo : GoodIn wsX10_deeds (wsV RX10 176 RX10 yX10_isSo wsX10_isSo) := goodIn_app (goodIn_of _ (by decide +kernel)) ggX10_deeds_X10_isSo
theorem dX10_deeds_0 : decode cX10_deeds 0 = .ok (.iload_n 1, 1) := by decide +kernel
theorem dX10_deeds_1 : decode cX10_deeds 1 = .ok (.iconst 0, 1) := by decide +kernel
theorem dX10_deeds_2 : decode cX10_deeds 2 = .ok (.iconst 1, 1) := by decide +kernel
theorem dX10_deeds_3 : decode cX10_deeds 3 = .ok (.invokestatic 63, 3) := by decide +kernel
theorem dX10_deeds_6 : decode cX10_deeds 6 = .ok (.ifCond .ne 5, 3) := by decide +kernel
theorem dX10_deeds_9 : decode cX10_deeds 9 = .ok (.iconst (-1), 1) := by decide +kernel
theorem dX10_deeds_10 : decode cX10_deeds 10 = .ok (.ireturn, 1) := by decide +kernel
theorem dX10_deeds_11 : decode cX10_deeds 11 = .ok (.iconst 0, 1) := by decide +kernel
theorem dX10_deeds_12 : decode cX10_deeds 12 = .ok (.istore_n 2, 1) := by decide +kernel
theorem dX10_deeds_13 : decode cX10_deeds 13 = .ok (.bipush (-9), 2) := by decide +kernel
theorem dX10_deeds_15 : decode cX10_deeds 15 = .ok (.istore_n 3, 1) := by decide +kernel
theorem dX10_deeds_16 : decode cX10_deeds 16 = .ok (.bipush 99, 2) := by decide +kernel
theorem dX10_deeds_18 : decode cX10_deeds 18 = .ok (.istore 4, 2) := by decide +kernel
theorem dX10_deeds_20 : decode cX10_deeds 20 = .ok (.iload 4, 2) := by decide +kernel
theorem dX10_deeds_22 : decode cX10_deeds 22 = .ok (.ifCond .lt 24, 3) := by decide +kernel
theorem dX10_deeds_25 : decode cX10_deeds 25 = .ok (.aload_n 0, 1) := by decide +kernel
theorem dX10_deeds_26 : decode cX10_deeds 26 = .ok (.iload 4, 2) := by decide +kernel
theorem dX10_deeds_28 : decode cX10_deeds 28 = .ok (.invokevirtual 176, 3) := by decide +kernel
theorem dX10_deeds_31 : decode cX10_deeds 31 = .ok (.ifCond .eq 9, 3) := by decide +kernel
theorem dX10_deeds_34 : decode cX10_deeds 34 = .ok (.iinc 2 1, 3) := by decide +kernel
theorem dX10_deeds_37 : decode cX10_deeds 37 = .ok (.iload 4, 2) := by decide +kernel
theorem dX10_deeds_39 : decode cX10_deeds 39 = .ok (.istore_n 3, 1) := by decide +kernel
theorem dX10_deeds_40 : decode cX10_deeds 40 = .ok (.iinc 4 (-1), 3) := by decide +kernel
theorem dX10_deeds_43 : decode cX10_deeds 43 = .ok (.goto (-23), 3) := by decide +kernel
theorem dX10_deeds_46 : decode cX10_deeds 46 = .ok (.iload_n 1, 1) := by decide +kernel
theorem dX10_deeds_47 : decode cX10_deeds 47 = .ok (.ifCond .ne 7, 3) := by decide +kernel
theorem dX10_deeds_50 : decode cX10_deeds 50 = .ok (.iload_n 2, 1) := by decide +kernel
theorem dX10_deeds_51 : decode cX10_deeds 51 = .ok (.goto 4, 3) := by decide +kernel
theorem dX10_deeds_54 : decode cX10_deeds 54 = .ok (.iload_n 3, 1) := by decide +kernel
theorem dX10_deeds_55 : decode cX10_deeds 55 = .ok (.ireturn, 1) := by decide +kernel
set_option maxRecDepth 20000 in
theorem ggX10_greatest_X10_isSo : GoodIn wsX10_greatest wsX10_isSo := goodIn_r _ [5, 6, 7, 8, 9, 10, 4, 11, 12, 13, 14, 15, 16, 17, 18, 19, 20, 21, 22, 23, 24, 25, 26, 27, 28, 29, 30, 31, 32, 33, 34, 35, 36, 37] (by decide +kernel) (by decide +kernel)
set_option maxRecDepth 20000 in
theorem gX10_greatest_X10_isSo : GoodIn wsX10_greatest (wsV RX10 176 RX10 yX10_isSo wsX10_isSo) := goodIn_app (goodIn_of _ (by decide +kernel)) ggX10_greatest_X10_isSo
set_option maxRecDepth 20000 in
theorem ggX10_greatest_X10_widthBy : GoodIn wsX10_greatest wsX10_widthBy := goodIn_r _ [11] (by decide +kernel) (by decide +kernel)
set_option maxRecDepth 20000 in
theorem gX10_greatest_X10_widthBy : GoodIn wsX10_greatest (va_wsS RX10 173 yX10_widthBy wsX10_widthBy) := goodIn_app (goodIn_of _ (by decide +kernel)) ggX10_greatest_X10_widthBy
theorem dX10_greatest_0 : decode cX10_greatest 0 = .ok (.iconst 0, 1) := by decide +kernel
theorem dX10_greatest_1 : decode cX10_greatest 1 = .ok (.istore_n 2, 1) := by decide +kernel
theorem dX10_greatest_2 : decode cX10_greatest 2 = .ok (.iconst 1, 1) := by decide +kernel
theorem dX10_greatest_3 : decode cX10_greatest 3 = .ok (.istore_n 3, 1) := by decide +kernel
theorem dX10_greatest_4 : decode cX10_greatest 4 = .ok (.iload_n 3, 1) := by decide +kernel
theorem dX10_greatest_5 : decode cX10_greatest 5 = .ok (.bipush 10, 2) := by decide +kernel
theorem dX10_greatest_7 : decode cX10_greatest 7 = .ok (.if_icmp .gt 70, 3) := by decide +kernel
theorem dX10_greatest_10 : decode cX10_greatest 10 = .ok (.iconst 0, 1) := by decide +kernel
theorem dX10_greatest_11 : decode cX10_greatest 11 = .ok (.istore 4, 2) := by decide +kernel
theorem dX10_greatest_13 : decode cX10_greatest 13 = .ok (.iconst 0, 1) := by decide +kernel
theorem dX10_greatest_14 : decode cX10_greatest 14 = .ok (.istore 5, 2) := by decide +kernel
theorem dX10_greatest_16 : decode cX10_greatest 16 = .ok (.iload 5, 2) := by decide +kernel
theorem dX10_greatest_18 : decode cX10_greatest 18 = .ok (.bipush 100, 2) := by decide +kernel
theorem dX10_greatest_20 : decode cX10_greatest 20 = .ok (.if_icmp .ge 38, 3) := by decide +kernel
theorem dX10_greatest_23 : decode cX10_greatest 23 = .ok (.iload 4, 2) := by decide +kernel
theorem dX10_greatest_25 : decode cX10_greatest 25 = .ok (.aload_n 0, 1) := by decide +kernel
theorem dX10_greatest_26 : decode cX10_greatest 26 = .ok (.iload 5, 2) := by decide +kernel
theorem dX10_greatest_28 : decode cX10_greatest 28 = .ok (.invokevirtual 176, 3) := by decide +kernel
theorem dX10_greatest_31 : decode cX10_greatest 31 = .ok (.ifCond .eq 17, 3) := by decide +kernel
theorem dX10_greatest_34 : decode cX10_greatest 34 = .ok (.iload 5, 2) := by decide +kernel
theorem dX10_greatest_36 : decode cX10_greatest 36 = .ok (.iload_n 1, 1) := by decide +kernel
theorem dX10_greatest_37 : decode cX10_greatest 37 = .ok (.invokestatic 173, 3) := by decide +kernel
theorem dX10_greatest_40 : decode cX10_greatest 40 = .ok (.iload_n 3, 1) := by decide +kernel
theorem dX10_greatest_41 : decode cX10_greatest 41 = .ok (.if_icmp .ne 7, 3) := by decide +kernel
theorem dX10_greatest_44 : decode cX10_greatest 44 = .ok (.iconst 1, 1) := by decide +kernel
theorem dX10_greatest_45 : decode cX10_greatest 45 = .ok (.goto 4, 3) := by decide +kernel
theorem dX10_greatest_48 : decode cX10_greatest 48 = .ok (.iconst 0, 1) := by decide +kernel
theorem dX10_greatest_49 : decode cX10_greatest 49 = .ok (.iadd, 1) := by decide +kernel
theorem dX10_greatest_50 : decode cX10_greatest 50 = .ok (.istore 4, 2) := by decide +kernel
theorem dX10_greatest_52 : decode cX10_greatest 52 = .ok (.iinc 5 1, 3) := by decide +kernel
theorem dX10_greatest_55 : decode cX10_greatest 55 = .ok (.goto (-39), 3) := by decide +kernel
theorem dX10_greatest_58 : decode cX10_greatest 58 = .ok (.iload 4, 2) := by decide +kernel
theorem dX10_greatest_60 : decode cX10_greatest 60 = .ok (.iload_n 2, 1) := by decide +kernel
theorem dX10_greatest_61 : decode cX10_greatest 61 = .ok (.if_icmp .le 8, 3) := by decide +kernel
theorem dX10_greatest_64 : decode cX10_greatest 64 = .ok (.iload 4, 2) := by decide +kernel
theorem dX10_greatest_66 : decode cX10_greatest 66 = .ok (.goto 4, 3) := by decide +kernel
theorem dX10_greatest_69 : decode cX10_greatest 69 = .ok (.iload_n 2, 1) := by decide +kernel
theorem dX10_greatest_70 : decode cX10_greatest 70 = .ok (.istore_n 2, 1) := by decide +kernel
theorem dX10_greatest_71 : decode cX10_greatest 71 = .ok (.iinc 3 1, 3) := by decide +kernel
theorem dX10_greatest_74 : decode cX10_greatest 74 = .ok (.goto (-70), 3) := by decide +kernel
theorem dX10_greatest_77 : decode cX10_greatest 77 = .ok (.iload_n 2, 1) := by decide +kernel
theorem dX10_greatest_78 : decode cX10_greatest 78 = .ok (.ireturn, 1) := by decide +kernel
set_option maxRecDepth 20000 in
theorem ggX10_when_X10_greatest : GoodIn wsX10_when wsX10_greatest := goodIn_r _ [5, 6, 7, 8, 4, 9, 10, 11, 12, 13, 14, 15, 16, 17, 18, 19, 20, 21, 22, 23, 24, 25, 26, 27, 28, 29, 30, 31, 32, 33, 34, 35, 36, 37, 38, 39, 40, 41] (by decide +kernel) (by decide +kernel)
set_option maxRecDepth 20000 in
theorem gX10_when_X10_greatest : GoodIn wsX10_when (wsV RX10 179 RX10 yX10_greatest wsX10_greatest) := goodIn_app (goodIn_of _ (by decide +kernel)) ggX10_when_X10_greatest
theorem dX10_when_0 : decode cX10_when 0 = .ok (.aload_n 0, 1) := by decide +kernel
theorem dX10_when_1 : decode cX10_when 1 = .ok (.iconst 0, 1) := by decide +kernel
theorem dX10_when_2 : decode cX10_when 2 = .ok (.invokevirtual 179, 3) := by decide +kernel
theorem dX10_when_5 : decode cX10_when 5 = .ok (.istore_n 1, 1) := by decide +kernel
theorem dX10_when_6 : decode cX10_when 6 = .ok (.iload_n 1, 1) := by decide +kernel
theorem dX10_when_7 : decode cX10_when 7 = .ok (.ifCond .ne 8, 3) := by decide +kernel
theorem dX10_when_10 : decode cX10_when 10 = .ok (.bipush (-9), 2) := by decide +kernel
theorem dX10_when_12 : decode cX10_when 12 = .ok (.goto 17, 3) := by decide +kernel
theorem dX10_when_15 : decode cX10_when 15 = .ok (.aload_n 0, 1) := by decide +kernel
theorem dX10_when_16 : decode cX10_when 16 = .ok (.iconst 1, 1) := by decide +kernel
theorem dX10_when_17 : decode cX10_when 17 = .ok (.invokevirtual 179, 3) := by decide +kernel
theorem dX10_when_20 : decode cX10_when 20 = .ok (.iload_n 1, 1) := by decide +kernel
theorem dX10_when_21 : decode cX10_when 21 = .ok (.if_icmp .ge 7, 3) := by decide +kernel
theorem dX10_when_24 : decode cX10_when 24 = .ok (.iconst 1, 1) := by decide +kernel
theorem dX10_when_25 : decode cX10_when 25 = .ok (.goto 4, 3) := by decide +kernel
theorem dX10_when_28 : decode cX10_when 28 = .ok (.iconst 0, 1) := by decide +kernel
theorem dX10_when_29 : decode cX10_when 29 = .ok (.ireturn, 1) := by decide +kernel
theorem dX10_bodiesOf_0 : decode cX10_bodiesOf 0 = .ok (.iload_n 0, 1) := by decide +kernel
theorem dX10_bodiesOf_1 : decode cX10_bodiesOf 1 = .ok (.tableswitch 47 0 4 #[35, 37, 39, 41, 44], 35) := by decide +kernel
theorem dX10_bodiesOf_36 : decode cX10_bodiesOf 36 = .ok (.iconst 1, 1) := by decide +kernel
theorem dX10_bodiesOf_37 : decode cX10_bodiesOf 37 = .ok (.ireturn, 1) := by decide +kernel
theorem dX10_bodiesOf_38 : decode cX10_bodiesOf 38 = .ok (.iconst 3, 1) := by decide +kernel
theorem dX10_bodiesOf_39 : decode cX10_bodiesOf 39 = .ok (.ireturn, 1) := by decide +kernel
theorem dX10_bodiesOf_40 : decode cX10_bodiesOf 40 = .ok (.iconst 5, 1) := by decide +kernel
theorem dX10_bodiesOf_41 : decode cX10_bodiesOf 41 = .ok (.ireturn, 1) := by decide +kernel
theorem dX10_bodiesOf_42 : decode cX10_bodiesOf 42 = .ok (.bipush 11, 2) := by decide +kernel
theorem dX10_bodiesOf_44 : decode cX10_bodiesOf 44 = .ok (.ireturn, 1) := by decide +kernel
theorem dX10_bodiesOf_45 : decode cX10_bodiesOf 45 = .ok (.bipush 21, 2) := by decide +kernel
theorem dX10_bodiesOf_47 : decode cX10_bodiesOf 47 = .ok (.ireturn, 1) := by decide +kernel
theorem dX10_bodiesOf_48 : decode cX10_bodiesOf 48 = .ok (.bipush 33, 2) := by decide +kernel
theorem dX10_bodiesOf_50 : decode cX10_bodiesOf 50 = .ok (.ireturn, 1) := by decide +kernel
set_option maxRecDepth 20000 in
theorem ggX10_mark_X10_in : GoodIn wsX10_mark wsX10_in := goodIn_r _ [9] (by decide +kernel) (by decide +kernel)
set_option maxRecDepth 20000 in
theorem gX10_mark_X10_in : GoodIn wsX10_mark (va_wsS RX10 63 yX10_in wsX10_in) := goodIn_app (goodIn_of _ (by decide +kernel)) ggX10_mark_X10_in
set_option maxRecDepth 20000 in
theorem ggX10_mark_X10_isStreet : GoodIn wsX10_mark wsX10_isStreet := goodIn_r _ [13, 5, 6, 7, 8, 9, 38, 39, 40, 41, 42, 43, 44, 45, 46, 47, 48, 49, 50, 51, 52, 53, 54, 55, 56, 57, 58, 59, 60, 61, 62, 63] (by decide +kernel) (by decide +kernel)
set_option maxRecDepth 20000 in
theorem gX10_mark_X10_isStreet : GoodIn wsX10_mark (wsV RX10 130 RX10 yX10_isStreet wsX10_isStreet) := goodIn_app (goodIn_of _ (by decide +kernel)) ggX10_mark_X10_isStreet
set_option maxRecDepth 20000 in
theorem ggX10_mark_X10_bodiesOf : GoodIn wsX10_mark wsX10_bodiesOf := goodIn_r _ [16] (by decide +kernel) (by decide +kernel)
set_option maxRecDepth 20000 in
theorem gX10_mark_X10_bodiesOf : GoodIn wsX10_mark (va_wsS RX10 183 yX10_bodiesOf wsX10_bodiesOf) := goodIn_app (goodIn_of _ (by decide +kernel)) ggX10_mark_X10_bodiesOf
set_option maxRecDepth 20000 in
theorem ggX10_mark_X10_has : GoodIn wsX10_mark wsX10_has := goodIn_r _ [19] (by decide +kernel) (by decide +kernel)
set_option maxRecDepth 20000 in
theorem gX10_mark_X10_has : GoodIn wsX10_mark (va_wsS RX10 151 yX10_has wsX10_has) := goodIn_app (goodIn_of _ (by decide +kernel)) ggX10_mark_X10_has
set_option maxRecDepth 20000 in
theorem ggX10_mark_X10_widthOf : GoodIn wsX10_mark wsX10_widthOf := goodIn_r _ [23, 4, 38, 39, 40, 41, 42, 43, 44, 45, 46, 47, 48, 49, 50, 51, 52, 53, 54, 55, 56, 57, 58, 59, 60, 61, 62, 63] (by decide +kernel) (by decide +kernel)
set_option maxRecDepth 20000 in
theorem gX10_mark_X10_widthOf : GoodIn wsX10_mark (wsV RX10 122 RX10 yX10_widthOf wsX10_widthOf) := goodIn_app (goodIn_of _ (by decide +kernel)) ggX10_mark_X10_widthOf
set_option maxRecDepth 20000 in
theorem ggX10_mark_X10_livingIn : GoodIn wsX10_mark wsX10_livingIn := goodIn_r _ [27, 28, 4, 38, 39, 40, 41, 42, 43, 44, 45, 46, 47, 48, 49, 50, 51, 52, 53, 54, 55, 56, 57, 58, 59, 60, 61, 62, 63] (by decide +kernel) (by decide +kernel)
set_option maxRecDepth 20000 in
theorem gX10_mark_X10_livingIn : GoodIn wsX10_mark (wsV RX10 133 RX10 yX10_livingIn wsX10_livingIn) := goodIn_app (goodIn_of _ (by decide +kernel)) ggX10_mark_X10_livingIn
set_option maxRecDepth 20000 in
theorem ggX10_mark_X10_bitsOf : GoodIn wsX10_mark wsX10_bitsOf := goodIn_r _ [31] (by decide +kernel) (by decide +kernel)
set_option maxRecDepth 20000 in
theorem gX10_mark_X10_bitsOf : GoodIn wsX10_mark (va_wsS RX10 145 yX10_bitsOf wsX10_bitsOf) := goodIn_app (goodIn_of _ (by decide +kernel)) ggX10_mark_X10_bitsOf
set_option maxRecDepth 20000 in
theorem ggX10_mark_X10_doMeet : GoodIn wsX10_mark wsX10_doMeet := goodIn_r _ [35, 36, 37, 38, 39, 40, 41, 42, 43, 44, 45, 46, 47, 48, 49, 50, 51, 52, 53, 54, 55, 56, 57, 58, 59, 60, 61, 62, 63] (by decide +kernel) (by decide +kernel)
set_option maxRecDepth 20000 in
theorem gX10_mark_X10_doMeet : GoodIn wsX10_mark (wsV RX10 126 RX10 yX10_doMeet wsX10_doMeet) := goodIn_app (goodIn_of _ (by decide +kernel)) ggX10_mark_X10_doMeet
theorem dX10_mark_0 : decode cX10_mark 0 = .ok (.iload_n 1, 1) := by decide +kernel
theorem dX10_mark_1 : decode cX10_mark 1 = .ok (.iconst 0, 1) := by decide +kernel
theorem dX10_mark_2 : decode cX10_mark 2 = .ok (.iconst 5, 1) := by decide +kernel
theorem dX10_mark_3 : decode cX10_mark 3 = .ok (.invokestatic 63, 3) := by decide +kernel
theorem dX10_mark_6 : decode cX10_mark 6 = .ok (.ifCond .eq 11, 3) := by decide +kernel
theorem dX10_mark_9 : decode cX10_mark 9 = .ok (.aload_n 0, 1) := by decide +kernel
theorem dX10_mark_10 : decode cX10_mark 10 = .ok (.iload_n 2, 1) := by decide +kernel
theorem dX10_mark_11 : decode cX10_mark 11 = .ok (.invokevirtual 130, 3) := by decide +kernel
theorem dX10_mark_14 : decode cX10_mark 14 = .ok (.ifCond .ne 6, 3) := by decide +kernel
theorem dX10_mark_17 : decode cX10_mark 17 = .ok (.ldc 182, 2) := by decide +kernel
theorem dX10_mark_19 : decode cX10_mark 19 = .ok (.ireturn, 1) := by decide +kernel
theorem dX10_mark_20 : decode cX10_mark 20 = .ok (.iload_n 1, 1) := by decide +kernel
theorem dX10_mark_21 : decode cX10_mark 21 = .ok (.invokestatic 183, 3) := by decide +kernel
theorem dX10_mark_24 : decode cX10_mark 24 = .ok (.istore_n 3, 1) := by decide +kernel
theorem dX10_mark_25 : decode cX10_mark 25 = .ok (.lconst 1, 1) := by decide +kernel
theorem dX10_mark_26 : decode cX10_mark 26 = .ok (.lstore 4, 2) := by decide +kernel
theorem dX10_mark_28 : decode cX10_mark 28 = .ok (.iconst 0, 1) := by decide +kernel
theorem dX10_mark_29 : decode cX10_mark 29 = .ok (.istore 6, 2) := by decide +kernel
theorem dX10_mark_31 : decode cX10_mark 31 = .ok (.iload 6, 2) := by decide +kernel
theorem dX10_mark_33 : decode cX10_mark 33 = .ok (.bipush 6, 2) := by decide +kernel
theorem dX10_mark_35 : decode cX10_mark 35 = .ok (.if_icmp .ge 41, 3) := by decide +kernel
theorem dX10_mark_38 : decode cX10_mark 38 = .ok (.aload_n 0, 1) := by decide +kernel
theorem dX10_mark_39 : decode cX10_mark 39 = .ok (.dup, 1) := by decide +kernel
theorem dX10_mark_40 : decode cX10_mark 40 = .ok (.getfield 186, 3) := by decide +kernel
theorem dX10_mark_43 : decode cX10_mark 43 = .ok (.iload_n 3, 1) := by decide +kernel
theorem dX10_mark_44 : decode cX10_mark 44 = .ok (.iload 6, 2) := by decide +kernel
theorem dX10_mark_46 : decode cX10_mark 46 = .ok (.invokestatic 151, 3) := by decide +kernel
theorem dX10_mark_49 : decode cX10_mark 49 = .ok (.ifCond .eq 8, 3) := by decide +kernel
theorem dX10_mark_52 : decode cX10_mark 52 = .ok (.lload 4, 2) := by decide +kernel
theorem dX10_mark_54 : decode cX10_mark 54 = .ok (.goto 4, 3) := by decide +kernel
theorem dX10_mark_57 : decode cX10_mark 57 = .ok (.lconst 0, 1) := by decide +kernel
theorem dX10_mark_58 : decode cX10_mark 58 = .ok (.ladd, 1) := by decide +kernel
theorem dX10_mark_59 : decode cX10_mark 59 = .ok (.putfield 186, 3) := by decide +kernel
theorem dX10_mark_62 : decode cX10_mark 62 = .ok (.lload 4, 2) := by decide +kernel
theorem dX10_mark_64 : decode cX10_mark 64 = .ok (.ldc2_w 190, 3) := by decide +kernel
theorem dX10_mark_67 : decode cX10_mark 67 = .ok (.lmul, 1) := by decide +kernel
theorem dX10_mark_68 : decode cX10_mark 68 = .ok (.lstore 4, 2) := by decide +kernel
theorem dX10_mark_70 : decode cX10_mark 70 = .ok (.iinc 6 1, 3) := by decide +kernel
theorem dX10_mark_73 : decode cX10_mark 73 = .ok (.goto (-42), 3) := by decide +kernel
theorem dX10_mark_76 : decode cX10_mark 76 = .ok (.aload_n 0, 1) := by decide +kernel
theorem dX10_mark_77 : decode cX10_mark 77 = .ok (.iload_n 2, 1) := by decide +kernel
theorem dX10_mark_78 : decode cX10_mark 78 = .ok (.invokevirtual 122, 3) := by decide +kernel
theorem dX10_mark_81 : decode cX10_mark 81 = .ok (.istore 6, 2) := by decide +kernel
theorem dX10_mark_83 : decode cX10_mark 83 = .ok (.iload 6, 2) := by decide +kernel
theorem dX10_mark_85 : decode cX10_mark 85 = .ok (.iload_n 3, 1) := by decide +kernel
theorem dX10_mark_86 : decode cX10_mark 86 = .ok (.iconst 1, 1) := by decide +kernel
theorem dX10_mark_87 : decode cX10_mark 87 = .ok (.invokestatic 151, 3) := by decide +kernel
theorem dX10_mark_90 : decode cX10_mark 90 = .ok (.ifCond .eq 14, 3) := by decide +kernel
theorem dX10_mark_93 : decode cX10_mark 93 = .ok (.aload_n 0, 1) := by decide +kernel
theorem dX10_mark_94 : decode cX10_mark 94 = .ok (.iload_n 2, 1) := by decide +kernel
theorem dX10_mark_95 : decode cX10_mark 95 = .ok (.invokevirtual 133, 3) := by decide +kernel
theorem dX10_mark_98 : decode cX10_mark 98 = .ok (.invokestatic 145, 3) := by decide +kernel
theorem dX10_mark_101 : decode cX10_mark 101 = .ok (.goto 4, 3) := by decide +kernel
theorem dX10_mark_104 : decode cX10_mark 104 = .ok (.iconst 0, 1) := by decide +kernel
theorem dX10_mark_105 : decode cX10_mark 105 = .ok (.iadd, 1) := by decide +kernel
theorem dX10_mark_106 : decode cX10_mark 106 = .ok (.istore 6, 2) := by decide +kernel
theorem dX10_mark_108 : decode cX10_mark 108 = .ok (.iload 6, 2) := by decide +kernel
theorem dX10_mark_110 : decode cX10_mark 110 = .ok (.iload_n 3, 1) := by decide +kernel
theorem dX10_mark_111 : decode cX10_mark 111 = .ok (.iconst 2, 1) := by decide +kernel
theorem dX10_mark_112 : decode cX10_mark 112 = .ok (.invokestatic 151, 3) := by decide +kernel
theorem dX10_mark_115 : decode cX10_mark 115 = .ok (.ifCond .eq 15, 3) := by decide +kernel
theorem dX10_mark_118 : decode cX10_mark 118 = .ok (.aload_n 0, 1) := by decide +kernel
theorem dX10_mark_119 : decode cX10_mark 119 = .ok (.getfield 38, 3) := by decide +kernel
theorem dX10_mark_122 : decode cX10_mark 122 = .ok (.bipush 10, 2) := by decide +kernel
theorem dX10_mark_124 : decode cX10_mark 124 = .ok (.iload_n 2, 1) := by decide +kernel
theorem dX10_mark_125 : decode cX10_mark 125 = .ok (.iadd, 1) := by decide +kernel
theorem dX10_mark_126 : decode cX10_mark 126 = .ok (.iaload, 1) := by decide +kernel
theorem dX10_mark_127 : decode cX10_mark 127 = .ok (.goto 4, 3) := by decide +kernel
theorem dX10_mark_130 : decode cX10_mark 130 = .ok (.iconst 0, 1) := by decide +kernel
theorem dX10_mark_131 : decode cX10_mark 131 = .ok (.isub, 1) := by decide +kernel
theorem dX10_mark_132 : decode cX10_mark 132 = .ok (.istore 6, 2) := by decide +kernel
theorem dX10_mark_134 : decode cX10_mark 134 = .ok (.iload_n 3, 1) := by decide +kernel
theorem dX10_mark_135 : decode cX10_mark 135 = .ok (.iconst 3, 1) := by decide +kernel
theorem dX10_mark_136 : decode cX10_mark 136 = .ok (.invokestatic 151, 3) := by decide +kernel
theorem dX10_mark_139 : decode cX10_mark 139 = .ok (.ifCond .eq 10, 3) := by decide +kernel
theorem dX10_mark_142 : decode cX10_mark 142 = .ok (.iconst 2, 1) := by decide +kernel
theorem dX10_mark_143 : decode cX10_mark 143 = .ok (.iload 6, 2) := by decide +kernel
theorem dX10_mark_145 : decode cX10_mark 145 = .ok (.imul, 1) := by decide +kernel
theorem dX10_mark_146 : decode cX10_mark 146 = .ok (.goto 5, 3) := by decide +kernel
theorem dX10_mark_149 : decode cX10_mark 149 = .ok (.iload 6, 2) := by decide +kernel
theorem dX10_mark_151 : decode cX10_mark 151 = .ok (.istore 6, 2) := by decide +kernel
theorem dX10_mark_153 : decode cX10_mark 153 = .ok (.iload 6, 2) := by decide +kernel
theorem dX10_mark_155 : decode cX10_mark 155 = .ok (.iload_n 3, 1) := by decide +kernel
theorem dX10_mark_156 : decode cX10_mark 156 = .ok (.iconst 4, 1) := by decide +kernel
theorem dX10_mark_157 : decode cX10_mark 157 = .ok (.invokestatic 151, 3) := by decide +kernel
theorem dX10_mark_160 : decode cX10_mark 160 = .ok (.ifCond .eq 7, 3) := by decide +kernel
theorem dX10_mark_163 : decode cX10_mark 163 = .ok (.iload_n 2, 1) := by decide +kernel
theorem dX10_mark_164 : decode cX10_mark 164 = .ok (.goto 4, 3) := by decide +kernel
theorem dX10_mark_167 : decode cX10_mark 167 = .ok (.iconst 0, 1) := by decide +kernel
theorem dX10_mark_168 : decode cX10_mark 168 = .ok (.iadd, 1) := by decide +kernel
theorem dX10_mark_169 : decode cX10_mark 169 = .ok (.istore 6, 2) := by decide +kernel
theorem dX10_mark_171 : decode cX10_mark 171 = .ok (.iconst 0, 1) := by decide +kernel
theorem dX10_mark_172 : decode cX10_mark 172 = .ok (.istore 7, 2) := by decide +kernel
theorem dX10_mark_174 : decode cX10_mark 174 = .ok (.iload 7, 2) := by decide +kernel
theorem dX10_mark_176 : decode cX10_mark 176 = .ok (.aload_n 0, 1) := by decide +kernel
theorem dX10_mark_177 : decode cX10_mark 177 = .ok (.getfield 17, 3) := by decide +kernel
theorem dX10_mark_180 : decode cX10_mark 180 = .ok (.iconst 0, 1) := by decide +kernel
theorem dX10_mark_181 : decode cX10_mark 181 = .ok (.iaload, 1) := by decide +kernel
theorem dX10_mark_182 : decode cX10_mark 182 = .ok (.if_icmp .ge 37, 3) := by decide +kernel
theorem dX10_mark_185 : decode cX10_mark 185 = .ok (.iload 6, 2) := by decide +kernel
theorem dX10_mark_187 : decode cX10_mark 187 = .ok (.iload_n 3, 1) := by decide +kernel
theorem dX10_mark_188 : decode cX10_mark 188 = .ok (.iconst 5, 1) := by decide +kernel
theorem dX10_mark_189 : decode cX10_mark 189 = .ok (.invokestatic 151, 3) := by decide +kernel
theorem dX10_mark_192 : decode cX10_mark 192 = .ok (.ifCond .eq 17, 3) := by decide +kernel
theorem dX10_mark_195 : decode cX10_mark 195 = .ok (.aload_n 0, 1) := by decide +kernel
theorem dX10_mark_196 : decode cX10_mark 196 = .ok (.iload_n 2, 1) := by decide +kernel
theorem dX10_mark_197 : decode cX10_mark 197 = .ok (.iload 7, 2) := by decide +kernel
theorem dX10_mark_199 : decode cX10_mark 199 = .ok (.invokevirtual 126, 3) := by decide +kernel
theorem dX10_mark_202 : decode cX10_mark 202 = .ok (.ifCond .eq 7, 3) := by decide +kernel
theorem dX10_mark_205 : decode cX10_mark 205 = .ok (.iconst 1, 1) := by decide +kernel
theorem dX10_mark_206 : decode cX10_mark 206 = .ok (.goto 4, 3) := by decide +kernel
theorem dX10_mark_209 : decode cX10_mark 209 = .ok (.iconst 0, 1) := by decide +kernel
theorem dX10_mark_210 : decode cX10_mark 210 = .ok (.iadd, 1) := by decide +kernel
theorem dX10_mark_211 : decode cX10_mark 211 = .ok (.istore 6, 2) := by decide +kernel
theorem dX10_mark_213 : decode cX10_mark 213 = .ok (.iinc 7 1, 3) := by decide +kernel
theorem dX10_mark_216 : decode cX10_mark 216 = .ok (.goto (-42), 3) := by decide +kernel
theorem dX10_mark_219 : decode cX10_mark 219 = .ok (.iload 6, 2) := by decide +kernel
theorem dX10_mark_221 : decode cX10_mark 221 = .ok (.ireturn, 1) := by decide +kernel
theorem dX10_trace_0 : decode cX10_trace 0 = .ok (.aload_n 0, 1) := by decide +kernel
theorem dX10_trace_1 : decode cX10_trace 1 = .ok (.getfield 186, 3) := by decide +kernel
theorem dX10_trace_4 : decode cX10_trace 4 = .ok (.lreturn, 1) := by decide +kernel
set_option maxRecDepth 20000 in
theorem ggX10_keep_X10_in : GoodIn wsX10_keep wsX10_in := goodIn_r _ [9] (by decide +kernel) (by decide +kernel)
set_option maxRecDepth 20000 in
theorem gX10_keep_X10_in : GoodIn wsX10_keep (va_wsS RX10 63 yX10_in wsX10_in) := goodIn_app (goodIn_of _ (by decide +kernel)) ggX10_keep_X10_in
theorem dX10_keep_0 : decode cX10_keep 0 = .ok (.iload_n 1, 1) := by decide +kernel
theorem dX10_keep_1 : decode cX10_keep 1 = .ok (.iconst 0, 1) := by decide +kernel
theorem dX10_keep_2 : decode cX10_keep 2 = .ok (.iconst 1, 1) := by decide +kernel
theorem dX10_keep_3 : decode cX10_keep 3 = .ok (.invokestatic 63, 3) := by decide +kernel
theorem dX10_keep_6 : decode cX10_keep 6 = .ok (.ifCond .ne 5, 3) := by decide +kernel
theorem dX10_keep_9 : decode cX10_keep 9 = .ok (.iconst (-1), 1) := by decide +kernel
theorem dX10_keep_10 : decode cX10_keep 10 = .ok (.ireturn, 1) := by decide +kernel
theorem dX10_keep_11 : decode cX10_keep 11 = .ok (.iconst 0, 1) := by decide +kernel
theorem dX10_keep_12 : decode cX10_keep 12 = .ok (.istore_n 2, 1) := by decide +kernel
theorem dX10_keep_13 : decode cX10_keep 13 = .ok (.iload_n 2, 1) := by decide +kernel
theorem dX10_keep_14 : decode cX10_keep 14 = .ok (.bipush 34, 2) := by decide +kernel
theorem dX10_keep_16 : decode cX10_keep 16 = .ok (.if_icmp .ge 26, 3) := by decide +kernel
theorem dX10_keep_19 : decode cX10_keep 19 = .ok (.aload_n 0, 1) := by decide +kernel
theorem dX10_keep_20 : decode cX10_keep 20 = .ok (.getfield 47, 3) := by decide +kernel
theorem dX10_keep_23 : decode cX10_keep 23 = .ok (.bipush 34, 2) := by decide +kernel
theorem dX10_keep_25 : decode cX10_keep 25 = .ok (.iload_n 1, 1) := by decide +kernel
theorem dX10_keep_26 : decode cX10_keep 26 = .ok (.imul, 1) := by decide +kernel
theorem dX10_keep_27 : decode cX10_keep 27 = .ok (.iload_n 2, 1) := by decide +kernel
theorem dX10_keep_28 : decode cX10_keep 28 = .ok (.iadd, 1) := by decide +kernel
theorem dX10_keep_29 : decode cX10_keep 29 = .ok (.aload_n 0, 1) := by decide +kernel
theorem dX10_keep_30 : decode cX10_keep 30 = .ok (.getfield 38, 3) := by decide +kernel
theorem dX10_keep_33 : decode cX10_keep 33 = .ok (.iload_n 2, 1) := by decide +kernel
theorem dX10_keep_34 : decode cX10_keep 34 = .ok (.iaload, 1) := by decide +kernel
theorem dX10_keep_35 : decode cX10_keep 35 = .ok (.iastore, 1) := by decide +kernel
theorem dX10_keep_36 : decode cX10_keep 36 = .ok (.iinc 2 1, 3) := by decide +kernel
theorem dX10_keep_39 : decode cX10_keep 39 = .ok (.goto (-26), 3) := by decide +kernel
theorem dX10_keep_42 : decode cX10_keep 42 = .ok (.iconst 0, 1) := by decide +kernel
theorem dX10_keep_43 : decode cX10_keep 43 = .ok (.istore_n 2, 1) := by decide +kernel
theorem dX10_keep_44 : decode cX10_keep 44 = .ok (.iload_n 2, 1) := by decide +kernel
theorem dX10_keep_45 : decode cX10_keep 45 = .ok (.sipush 340, 3) := by decide +kernel
theorem dX10_keep_48 : decode cX10_keep 48 = .ok (.if_icmp .ge 29, 3) := by decide +kernel
theorem dX10_keep_51 : decode cX10_keep 51 = .ok (.aload_n 0, 1) := by decide +kernel
theorem dX10_keep_52 : decode cX10_keep 52 = .ok (.getfield 44, 3) := by decide +kernel
theorem dX10_keep_55 : decode cX10_keep 55 = .ok (.sipush 340, 3) := by decide +kernel
theorem dX10_keep_58 : decode cX10_keep 58 = .ok (.iconst 1, 1) := by decide +kernel
theorem dX10_keep_59 : decode cX10_keep 59 = .ok (.iload_n 1, 1) := by decide +kernel
theorem dX10_keep_60 : decode cX10_keep 60 = .ok (.iadd, 1) := by decide +kernel
theorem dX10_keep_61 : decode cX10_keep 61 = .ok (.imul, 1) := by decide +kernel
theorem dX10_keep_62 : decode cX10_keep 62 = .ok (.iload_n 2, 1) := by decide +kernel
theorem dX10_keep_63 : decode cX10_keep 63 = .ok (.iadd, 1) := by decide +kernel
theorem dX10_keep_64 : decode cX10_keep 64 = .ok (.aload_n 0, 1) := by decide +kernel
theorem dX10_keep_65 : decode cX10_keep 65 = .ok (.getfield 44, 3) := by decide +kernel
theorem dX10_keep_68 : decode cX10_keep 68 = .ok (.iload_n 2, 1) := by decide +kernel
theorem dX10_keep_69 : decode cX10_keep 69 = .ok (.iaload, 1) := by decide +kernel
theorem dX10_keep_70 : decode cX10_keep 70 = .ok (.iastore, 1) := by decide +kernel
theorem dX10_keep_71 : decode cX10_keep 71 = .ok (.iinc 2 1, 3) := by decide +kernel
theorem dX10_keep_74 : decode cX10_keep 74 = .ok (.goto (-30), 3) := by decide +kernel
theorem dX10_keep_77 : decode cX10_keep 77 = .ok (.aload_n 0, 1) := by decide +kernel
theorem dX10_keep_78 : decode cX10_keep 78 = .ok (.getfield 41, 3) := by decide +kernel
theorem dX10_keep_81 : decode cX10_keep 81 = .ok (.iconst 1, 1) := by decide +kernel
theorem dX10_keep_82 : decode cX10_keep 82 = .ok (.iload_n 1, 1) := by decide +kernel
theorem dX10_keep_83 : decode cX10_keep 83 = .ok (.iadd, 1) := by decide +kernel
theorem dX10_keep_84 : decode cX10_keep 84 = .ok (.aload_n 0, 1) := by decide +kernel
theorem dX10_keep_85 : decode cX10_keep 85 = .ok (.getfield 41, 3) := by decide +kernel
theorem dX10_keep_88 : decode cX10_keep 88 = .ok (.iconst 0, 1) := by decide +kernel
theorem dX10_keep_89 : decode cX10_keep 89 = .ok (.iaload, 1) := by decide +kernel
theorem dX10_keep_90 : decode cX10_keep 90 = .ok (.iastore, 1) := by decide +kernel
theorem dX10_keep_91 : decode cX10_keep 91 = .ok (.aload_n 0, 1) := by decide +kernel
theorem dX10_keep_92 : decode cX10_keep 92 = .ok (.getfield 50, 3) := by decide +kernel
theorem dX10_keep_95 : decode cX10_keep 95 = .ok (.iload_n 1, 1) := by decide +kernel
theorem dX10_keep_96 : decode cX10_keep 96 = .ok (.iconst 1, 1) := by decide +kernel
theorem dX10_keep_97 : decode cX10_keep 97 = .ok (.bastore, 1) := by decide +kernel
theorem dX10_keep_98 : decode cX10_keep 98 = .ok (.aload_n 0, 1) := by decide +kernel
theorem dX10_keep_99 : decode cX10_keep 99 = .ok (.getfield 38, 3) := by decide +kernel
theorem dX10_keep_102 : decode cX10_keep 102 = .ok (.iconst 0, 1) := by decide +kernel
theorem dX10_keep_103 : decode cX10_keep 103 = .ok (.iaload, 1) := by decide +kernel
theorem dX10_keep_104 : decode cX10_keep 104 = .ok (.ireturn, 1) := by decide +kernel
set_option maxRecDepth 20000 in
theorem ggX10_back_X10_in : GoodIn wsX10_back wsX10_in := goodIn_r _ [9] (by decide +kernel) (by decide +kernel)
set_option maxRecDepth 20000 in
theorem gX10_back_X10_in : GoodIn wsX10_back (va_wsS RX10 63 yX10_in wsX10_in) := goodIn_app (goodIn_of _ (by decide +kernel)) ggX10_back_X10_in
theorem dX10_back_0 : decode cX10_back 0 = .ok (.iload_n 1, 1) := by decide +kernel
theorem dX10_back_1 : decode cX10_back 1 = .ok (.iconst 0, 1) := by decide +kernel
theorem dX10_back_2 : decode cX10_back 2 = .ok (.iconst 1, 1) := by decide +kernel
theorem dX10_back_3 : decode cX10_back 3 = .ok (.invokestatic 63, 3) := by decide +kernel
theorem dX10_back_6 : decode cX10_back 6 = .ok (.ifCond .ne 5, 3) := by decide +kernel
theorem dX10_back_9 : decode cX10_back 9 = .ok (.iconst (-1), 1) := by decide +kernel
theorem dX10_back_10 : decode cX10_back 10 = .ok (.ireturn, 1) := by decide +kernel
theorem dX10_back_11 : decode cX10_back 11 = .ok (.aload_n 0, 1) := by decide +kernel
theorem dX10_back_12 : decode cX10_back 12 = .ok (.getfield 50, 3) := by decide +kernel
theorem dX10_back_15 : decode cX10_back 15 = .ok (.iload_n 1, 1) := by decide +kernel
theorem dX10_back_16 : decode cX10_back 16 = .ok (.baload, 1) := by decide +kernel
theorem dX10_back_17 : decode cX10_back 17 = .ok (.ifCond .ne 6, 3) := by decide +kernel
theorem dX10_back_20 : decode cX10_back 20 = .ok (.bipush (-2), 2) := by decide +kernel
theorem dX10_back_22 : decode cX10_back 22 = .ok (.ireturn, 1) := by decide +kernel
theorem dX10_back_23 : decode cX10_back 23 = .ok (.iconst 0, 1) := by decide +kernel
theorem dX10_back_24 : decode cX10_back 24 = .ok (.istore_n 2, 1) := by decide +kernel
theorem dX10_back_25 : decode cX10_back 25 = .ok (.iload_n 2, 1) := by decide +kernel
theorem dX10_back_26 : decode cX10_back 26 = .ok (.bipush 34, 2) := by decide +kernel
theorem dX10_back_28 : decode cX10_back 28 = .ok (.if_icmp .ge 26, 3) := by decide +kernel
theorem dX10_back_31 : decode cX10_back 31 = .ok (.aload_n 0, 1) := by decide +kernel
theorem dX10_back_32 : decode cX10_back 32 = .ok (.getfield 38, 3) := by decide +kernel
theorem dX10_back_35 : decode cX10_back 35 = .ok (.iload_n 2, 1) := by decide +kernel
theorem dX10_back_36 : decode cX10_back 36 = .ok (.aload_n 0, 1) := by decide +kernel
theorem dX10_back_37 : decode cX10_back 37 = .ok (.getfield 47, 3) := by decide +kernel
theorem dX10_back_40 : decode cX10_back 40 = .ok (.bipush 34, 2) := by decide +kernel
theorem dX10_back_42 : decode cX10_back 42 = .ok (.iload_n 1, 1) := by decide +kernel
theorem dX10_back_43 : decode cX10_back 43 = .ok (.imul, 1) := by decide +kernel
theorem dX10_back_44 : decode cX10_back 44 = .ok (.iload_n 2, 1) := by decide +kernel
theorem dX10_back_45 : decode cX10_back 45 = .ok (.iadd, 1) := by decide +kernel
theorem dX10_back_46 : decode cX10_back 46 = .ok (.iaload, 1) := by decide +kernel
theorem dX10_back_47 : decode cX10_back 47 = .ok (.iastore, 1) := by decide +kernel
theorem dX10_back_48 : decode cX10_back 48 = .ok (.iinc 2 1, 3) := by decide +kernel
theorem dX10_back_51 : decode cX10_back 51 = .ok (.goto (-26), 3) := by decide +kernel
theorem dX10_back_54 : decode cX10_back 54 = .ok (.iconst 0, 1) := by decide +kernel
theorem dX10_back_55 : decode cX10_back 55 = .ok (.istore_n 2, 1) := by decide +kernel
theorem dX10_back_56 : decode cX10_back 56 = .ok (.iload_n 2, 1) := by decide +kernel
theorem dX10_back_57 : decode cX10_back 57 = .ok (.sipush 340, 3) := by decide +kernel
theorem dX10_back_60 : decode cX10_back 60 = .ok (.if_icmp .ge 29, 3) := by decide +kernel
theorem dX10_back_63 : decode cX10_back 63 = .ok (.aload_n 0, 1) := by decide +kernel
theorem dX10_back_64 : decode cX10_back 64 = .ok (.getfield 44, 3) := by decide +kernel
theorem dX10_back_67 : decode cX10_back 67 = .ok (.iload_n 2, 1) := by decide +kernel
theorem dX10_back_68 : decode cX10_back 68 = .ok (.aload_n 0, 1) := by decide +kernel
theorem dX10_back_69 : decode cX10_back 69 = .ok (.getfield 44, 3) := by decide +kernel
theorem dX10_back_72 : decode cX10_back 72 = .ok (.sipush 340, 3) := by decide +kernel
theorem dX10_back_75 : decode cX10_back 75 = .ok (.iconst 1, 1) := by decide +kernel
theorem dX10_back_76 : decode cX10_back 76 = .ok (.iload_n 1, 1) := by decide +kernel
theorem dX10_back_77 : decode cX10_back 77 = .ok (.iadd, 1) := by decide +kernel
theorem dX10_back_78 : decode cX10_back 78 = .ok (.imul, 1) := by decide +kernel
theorem dX10_back_79 : decode cX10_back 79 = .ok (.iload_n 2, 1) := by decide +kernel
theorem dX10_back_80 : decode cX10_back 80 = .ok (.iadd, 1) := by decide +kernel
theorem dX10_back_81 : decode cX10_back 81 = .ok (.iaload, 1) := by decide +kernel
theorem dX10_back_82 : decode cX10_back 82 = .ok (.iastore, 1) := by decide +kernel
theorem dX10_back_83 : decode cX10_back 83 = .ok (.iinc 2 1, 3) := by decide +kernel
theorem dX10_back_86 : decode cX10_back 86 = .ok (.goto (-30), 3) := by decide +kernel
theorem dX10_back_89 : decode cX10_back 89 = .ok (.aload_n 0, 1) := by decide +kernel
theorem dX10_back_90 : decode cX10_back 90 = .ok (.getfield 41, 3) := by decide +kernel
theorem dX10_back_93 : decode cX10_back 93 = .ok (.iconst 0, 1) := by decide +kernel
theorem dX10_back_94 : decode cX10_back 94 = .ok (.aload_n 0, 1) := by decide +kernel
theorem dX10_back_95 : decode cX10_back 95 = .ok (.getfield 41, 3) := by decide +kernel
theorem dX10_back_98 : decode cX10_back 98 = .ok (.iconst 1, 1) := by decide +kernel
theorem dX10_back_99 : decode cX10_back 99 = .ok (.iload_n 1, 1) := by decide +kernel
theorem dX10_back_100 : decode cX10_back 100 = .ok (.iadd, 1) := by decide +kernel
theorem dX10_back_101 : decode cX10_back 101 = .ok (.iaload, 1) := by decide +kernel
theorem dX10_back_102 : decode cX10_back 102 = .ok (.iastore, 1) := by decide +kernel
theorem dX10_back_103 : decode cX10_back 103 = .ok (.aload_n 0, 1) := by decide +kernel
theorem dX10_back_104 : decode cX10_back 104 = .ok (.getfield 38, 3) := by decide +kernel
theorem dX10_back_107 : decode cX10_back 107 = .ok (.iconst 0, 1) := by decide +kernel
theorem dX10_back_108 : decode cX10_back 108 = .ok (.iaload, 1) := by decide +kernel
theorem dX10_back_109 : decode cX10_back 109 = .ok (.ireturn, 1) := by decide +kernel
theorem dX10_count_0 : decode cX10_count 0 = .ok (.iload_n 1, 1) := by decide +kernel
theorem dX10_count_1 : decode cX10_count 1 = .ok (.tableswitch 77 0 5 #[39, 46, 53, 60, 65, 72], 39) := by decide +kernel
theorem dX10_count_40 : decode cX10_count 40 = .ok (.aload_n 0, 1) := by decide +kernel
theorem dX10_count_41 : decode cX10_count 41 = .ok (.getfield 13, 3) := by decide +kernel
theorem dX10_count_44 : decode cX10_count 44 = .ok (.iconst 0, 1) := by decide +kernel
theorem dX10_count_45 : decode cX10_count 45 = .ok (.iaload, 1) := by decide +kernel
theorem dX10_count_46 : decode cX10_count 46 = .ok (.ireturn, 1) := by decide +kernel
theorem dX10_count_47 : decode cX10_count 47 = .ok (.aload_n 0, 1) := by decide +kernel
theorem dX10_count_48 : decode cX10_count 48 = .ok (.getfield 17, 3) := by decide +kernel
theorem dX10_count_51 : decode cX10_count 51 = .ok (.iconst 0, 1) := by decide +kernel
theorem dX10_count_52 : decode cX10_count 52 = .ok (.iaload, 1) := by decide +kernel
theorem dX10_count_53 : decode cX10_count 53 = .ok (.ireturn, 1) := by decide +kernel
theorem dX10_count_54 : decode cX10_count 54 = .ok (.aload_n 0, 1) := by decide +kernel
theorem dX10_count_55 : decode cX10_count 55 = .ok (.getfield 29, 3) := by decide +kernel
theorem dX10_count_58 : decode cX10_count 58 = .ok (.iconst 0, 1) := by decide +kernel
theorem dX10_count_59 : decode cX10_count 59 = .ok (.iaload, 1) := by decide +kernel
theorem dX10_count_60 : decode cX10_count 60 = .ok (.ireturn, 1) := by decide +kernel
theorem dX10_count_61 : decode cX10_count 61 = .ok (.aload_n 0, 1) := by decide +kernel
theorem dX10_count_62 : decode cX10_count 62 = .ok (.getfield 116, 3) := by decide +kernel
theorem dX10_count_65 : decode cX10_count 65 = .ok (.ireturn, 1) := by decide +kernel
theorem dX10_count_66 : decode cX10_count 66 = .ok (.aload_n 0, 1) := by decide +kernel
theorem dX10_count_67 : decode cX10_count 67 = .ok (.getfield 41, 3) := by decide +kernel
theorem dX10_count_70 : decode cX10_count 70 = .ok (.iconst 0, 1) := by decide +kernel
theorem dX10_count_71 : decode cX10_count 71 = .ok (.iaload, 1) := by decide +kernel
theorem dX10_count_72 : decode cX10_count 72 = .ok (.ireturn, 1) := by decide +kernel
theorem dX10_count_73 : decode cX10_count 73 = .ok (.aload_n 0, 1) := by decide +kernel
theorem dX10_count_74 : decode cX10_count 74 = .ok (.getfield 67, 3) := by decide +kernel
theorem dX10_count_77 : decode cX10_count 77 = .ok (.ireturn, 1) := by decide +kernel
theorem dX10_count_78 : decode cX10_count 78 = .ok (.iconst (-1), 1) := by decide +kernel
theorem dX10_count_79 : decode cX10_count 79 = .ok (.ireturn, 1) := by decide +kernel
