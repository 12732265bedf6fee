theorem dX6_init_0 : decode cX6_init 0 = .ok (.aload_n 0, 1) := by decide +kernel
theorem dX6_init_1 : decode cX6_init 1 = .ok (.invokespecial 3, 3) := by decide +kernel
theorem dX6_init_4 : decode cX6_init 4 = .ok (.aload_n 0, 1) := by decide +kernel
theorem dX6_init_5 : decode cX6_init 5 = .ok (.bipush 120, 2) := by decide +kernel
theorem dX6_init_7 : decode cX6_init 7 = .ok (.newarray .int, 2) := by decide +kernel
theorem dX6_init_9 : decode cX6_init 9 = .ok (.putfield 9, 3) := by decide +kernel
theorem dX6_init_12 : decode cX6_init 12 = .ok (.return_, 1) := by decide +kernel
theorem dX6_add_0 : decode cX6_add 0 = .ok (.aload_n 0, 1) := by decide +kernel
theorem dX6_add_1 : decode cX6_add 1 = .ok (.getfield 15, 3) := by decide +kernel
theorem dX6_add_4 : decode cX6_add 4 = .ok (.bipush 120, 2) := by decide +kernel
theorem dX6_add_6 : decode cX6_add 6 = .ok (.if_icmp .ge 23, 3) := by decide +kernel
theorem dX6_add_9 : decode cX6_add 9 = .ok (.aload_n 0, 1) := by decide +kernel
theorem dX6_add_10 : decode cX6_add 10 = .ok (.getfield 9, 3) := by decide +kernel
theorem dX6_add_13 : decode cX6_add 13 = .ok (.aload_n 0, 1) := by decide +kernel
theorem dX6_add_14 : decode cX6_add 14 = .ok (.getfield 15, 3) := by decide +kernel
theorem dX6_add_17 : decode cX6_add 17 = .ok (.iload_n 1, 1) := by decide +kernel
theorem dX6_add_18 : decode cX6_add 18 = .ok (.iastore, 1) := by decide +kernel
theorem dX6_add_19 : decode cX6_add 19 = .ok (.aload_n 0, 1) := by decide +kernel
theorem dX6_add_20 : decode cX6_add 20 = .ok (.dup, 1) := by decide +kernel
theorem dX6_add_21 : decode cX6_add 21 = .ok (.getfield 15, 3) := by decide +kernel
theorem dX6_add_24 : decode cX6_add 24 = .ok (.iconst 1, 1) := by decide +kernel
theorem dX6_add_25 : decode cX6_add 25 = .ok (.iadd, 1) := by decide +kernel
theorem dX6_add_26 : decode cX6_add 26 = .ok (.putfield 15, 3) := by decide +kernel
theorem dX6_add_29 : decode cX6_add 29 = .ok (.return_, 1) := by decide +kernel
set_option maxRecDepth 20000 in
theorem ggX6_readInto_X7_begin : GoodIn wsX6_readInto wsX7_begin := goodIn_r _ [8, 9, 10, 11, 77, 78, 79, 80, 81, 82, 83, 84, 85, 86, 87, 88, 89, 90, 91, 92, 93] (by decide +kernel) (by decide +kernel)
set_option maxRecDepth 20000 in
theorem gX6_readInto_X7_begin_u19X4 : GoodIn wsX6_readInto (va_wsU RX6 19 RX4 "KindStreets$Town" ⟨"KindStreets$Town", "begin", "()V"⟩ yX7_begin wsX7_begin) := goodIn_app (goodIn_of _ (by decide +kernel)) ggX6_readInto_X7_begin
set_option maxRecDepth 20000 in
theorem gX6_readInto_X7_begin : GoodIn wsX6_readInto (wsV RX6 19 RX7 yX7_begin wsX7_begin) := goodIn_app (goodIn_of _ (by decide +kernel)) ggX6_readInto_X7_begin
set_option maxRecDepth 20000 in
theorem ggX6_readInto_X6_skipBlanks : GoodIn wsX6_readInto wsX6_skipBlanks := goodIn_r _ [18, 1, 2, 19, 20, 21, 17, 22, 23, 74, 75, 76] (by decide +kernel) (by decide +kernel)
set_option maxRecDepth 20000 in
theorem gX6_readInto_X6_skipBlanks : GoodIn wsX6_readInto (wsV RX6 27 RX6 yX6_skipBlanks wsX6_skipBlanks) := goodIn_app (goodIn_of _ (by decide +kernel)) ggX6_readInto_X6_skipBlanks
set_option maxRecDepth 20000 in
theorem ggX6_readInto_X6_readItem : GoodIn wsX6_readInto wsX6_readItem := goodIn_r _ [27, 1, 28, 29, 30, 31, 32, 17, 33, 19, 20, 21, 22, 2, 23, 34, 35, 36, 37, 38, 39, 40, 41, 42, 43, 44, 45, 14, 15, 16, 18, 46, 47, 48, 49, 50, 51, 52, 53, 54, 55, 56, 57, 58, 59, 60, 61, 62, 63, 64, 65, 66, 67, 68, 69, 74, 75, 76, 77, 78, 79, 80, 81, 82, 83, 84, 85, 86, 87, 88, 89, 90, 91, 92, 93] (by decide +kernel) (by decide +kernel)
set_option maxRecDepth 20000 in
theorem gX6_readInto_X6_readItem : GoodIn wsX6_readInto (wsV RX6 30 RX6 yX6_readItem wsX6_readItem) := goodIn_app (goodIn_of _ (by decide +kernel)) ggX6_readInto_X6_readItem
set_option maxRecDepth 20000 in
theorem ggX6_readInto_X6_readEnd : GoodIn wsX6_readInto wsX6_readEnd := goodIn_r _ [73, 1, 14, 15, 16, 17, 18, 2, 19, 20, 21, 22, 23, 74, 75, 76] (by decide +kernel) (by decide +kernel)
set_option maxRecDepth 20000 in
theorem gX6_readInto_X6_readEnd : GoodIn wsX6_readInto (wsV RX6 34 RX6 yX6_readEnd wsX6_readEnd) := goodIn_app (goodIn_of _ (by decide +kernel)) ggX6_readInto_X6_readEnd
theorem dX6_readInto_0 : decode cX6_readInto 0 = .ok (.aload_n 1, 1) := by decide +kernel
theorem dX6_readInto_1 : decode cX6_readInto 1 = .ok (.invokevirtual 19, 3) := by decide +kernel
theorem dX6_readInto_4 : decode cX6_readInto 4 = .ok (.aload_n 0, 1) := by decide +kernel
theorem dX6_readInto_5 : decode cX6_readInto 5 = .ok (.iconst 0, 1) := by decide +kernel
theorem dX6_readInto_6 : decode cX6_readInto 6 = .ok (.putfield 24, 3) := by decide +kernel
theorem dX6_readInto_9 : decode cX6_readInto 9 = .ok (.iconst 0, 1) := by decide +kernel
theorem dX6_readInto_10 : decode cX6_readInto 10 = .ok (.istore_n 2, 1) := by decide +kernel
theorem dX6_readInto_11 : decode cX6_readInto 11 = .ok (.iload_n 2, 1) := by decide +kernel
theorem dX6_readInto_12 : decode cX6_readInto 12 = .ok (.bipush 120, 2) := by decide +kernel
theorem dX6_readInto_14 : decode cX6_readInto 14 = .ok (.if_icmp .ge 58, 3) := by decide +kernel
theorem dX6_readInto_17 : decode cX6_readInto 17 = .ok (.aload_n 0, 1) := by decide +kernel
theorem dX6_readInto_18 : decode cX6_readInto 18 = .ok (.invokevirtual 27, 3) := by decide +kernel
theorem dX6_readInto_21 : decode cX6_readInto 21 = .ok (.aload_n 0, 1) := by decide +kernel
theorem dX6_readInto_22 : decode cX6_readInto 22 = .ok (.getfield 24, 3) := by decide +kernel
theorem dX6_readInto_25 : decode cX6_readInto 25 = .ok (.aload_n 0, 1) := by decide +kernel
theorem dX6_readInto_26 : decode cX6_readInto 26 = .ok (.getfield 15, 3) := by decide +kernel
theorem dX6_readInto_29 : decode cX6_readInto 29 = .ok (.if_icmp .lt 5, 3) := by decide +kernel
theorem dX6_readInto_32 : decode cX6_readInto 32 = .ok (.iload_n 2, 1) := by decide +kernel
theorem dX6_readInto_33 : decode cX6_readInto 33 = .ok (.ireturn, 1) := by decide +kernel
theorem dX6_readInto_34 : decode cX6_readInto 34 = .ok (.aload_n 0, 1) := by decide +kernel
theorem dX6_readInto_35 : decode cX6_readInto 35 = .ok (.aload_n 1, 1) := by decide +kernel
theorem dX6_readInto_36 : decode cX6_readInto 36 = .ok (.iload_n 2, 1) := by decide +kernel
theorem dX6_readInto_37 : decode cX6_readInto 37 = .ok (.ifCond .ne 7, 3) := by decide +kernel
theorem dX6_readInto_40 : decode cX6_readInto 40 = .ok (.iconst 1, 1) := by decide +kernel
theorem dX6_readInto_41 : decode cX6_readInto 41 = .ok (.goto 4, 3) := by decide +kernel
theorem dX6_readInto_44 : decode cX6_readInto 44 = .ok (.iconst 0, 1) := by decide +kernel
theorem dX6_readInto_45 : decode cX6_readInto 45 = .ok (.invokevirtual 30, 3) := by decide +kernel
theorem dX6_readInto_48 : decode cX6_readInto 48 = .ok (.ifCond .eq 10, 3) := by decide +kernel
theorem dX6_readInto_51 : decode cX6_readInto 51 = .ok (.aload_n 0, 1) := by decide +kernel
theorem dX6_readInto_52 : decode cX6_readInto 52 = .ok (.invokevirtual 34, 3) := by decide +kernel
theorem dX6_readInto_55 : decode cX6_readInto 55 = .ok (.ifCond .ne 11, 3) := by decide +kernel
theorem dX6_readInto_58 : decode cX6_readInto 58 = .ok (.bipush (-10), 2) := by decide +kernel
theorem dX6_readInto_60 : decode cX6_readInto 60 = .ok (.aload_n 0, 1) := by decide +kernel
theorem dX6_readInto_61 : decode cX6_readInto 61 = .ok (.getfield 24, 3) := by decide +kernel
theorem dX6_readInto_64 : decode cX6_readInto 64 = .ok (.isub, 1) := by decide +kernel
theorem dX6_readInto_65 : decode cX6_readInto 65 = .ok (.ireturn, 1) := by decide +kernel
theorem dX6_readInto_66 : decode cX6_readInto 66 = .ok (.iinc 2 1, 3) := by decide +kernel
theorem dX6_readInto_69 : decode cX6_readInto 69 = .ok (.goto (-58), 3) := by decide +kernel
theorem dX6_readInto_72 : decode cX6_readInto 72 = .ok (.bipush (-10), 2) := by decide +kernel
theorem dX6_readInto_74 : decode cX6_readInto 74 = .ok (.aload_n 0, 1) := by decide +kernel
theorem dX6_readInto_75 : decode cX6_readInto 75 = .ok (.getfield 24, 3) := by decide +kernel
theorem dX6_readInto_78 : decode cX6_readInto 78 = .ok (.isub, 1) := by decide +kernel
theorem dX6_readInto_79 : decode cX6_readInto 79 = .ok (.ireturn, 1) := by decide +kernel
set_option maxRecDepth 20000 in
theorem ggX6_readItem_X6_loneLetter : GoodIn wsX6_readItem wsX6_loneLetter := goodIn_r _ [8, 1, 9, 10, 11, 7, 12, 13, 14, 15, 16, 17, 55, 56, 57] (by decide +kernel) (by decide +kernel)
set_option maxRecDepth 20000 in
theorem gX6_readItem_X6_loneLetter : GoodIn wsX6_readItem (wsV RX6 38 RX6 yX6_loneLetter wsX6_loneLetter) := goodIn_app (goodIn_of _ (by decide +kernel)) ggX6_readItem_X6_loneLetter
set_option maxRecDepth 20000 in
theorem ggX6_readItem_X6_readYards : GoodIn wsX6_readItem wsX6_readYards := goodIn_r _ [21, 22, 23, 24, 25, 7, 26, 1, 27, 28, 29, 30, 13, 9, 10, 11, 12, 14, 31, 32, 33, 34, 35, 36, 37, 38, 39, 40, 41, 58, 59, 60, 61, 62, 63, 64, 65, 66, 67, 68, 69, 70, 71, 72, 73, 74, 55, 56, 57] (by decide +kernel) (by decide +kernel)
set_option maxRecDepth 20000 in
theorem gX6_readItem_X6_readYards : GoodIn wsX6_readItem (wsV RX6 42 RX6 yX6_readYards wsX6_readYards) := goodIn_app (goodIn_of _ (by decide +kernel)) ggX6_readItem_X6_readYards
set_option maxRecDepth 20000 in
theorem ggX6_readItem_X6_readStreet : GoodIn wsX6_readItem wsX6_readStreet := goodIn_r _ [45, 22, 46, 2, 47, 48, 23, 24, 25, 7, 26, 1, 27, 28, 29, 30, 13, 9, 10, 11, 12, 14, 31, 32, 33, 34, 35, 36, 37, 38, 39, 40, 41, 58, 59, 60, 61, 62, 63, 64, 65, 66, 67, 68, 69, 70, 71, 72, 73, 74, 55, 56, 57] (by decide +kernel) (by decide +kernel)
set_option maxRecDepth 20000 in
theorem gX6_readItem_X6_readStreet : GoodIn wsX6_readItem (wsV RX6 49 RX6 yX6_readStreet wsX6_readStreet) := goodIn_app (goodIn_of _ (by decide +kernel)) ggX6_readItem_X6_readStreet
set_option maxRecDepth 20000 in
theorem ggX6_readItem_X6_readCitizen : GoodIn wsX6_readItem wsX6_readCitizen := goodIn_r _ [52, 2, 53, 3, 54, 23, 24, 25, 7, 26, 1, 27, 28, 29, 30, 13, 9, 10, 11, 12, 14, 31, 32, 33, 34, 35, 36, 37, 38, 39, 40, 41, 58, 59, 60, 61, 62, 63, 64, 65, 66, 67, 68, 69, 70, 71, 72, 73, 74, 55, 56, 57] (by decide +kernel) (by decide +kernel)
set_option maxRecDepth 20000 in
theorem gX6_readItem_X6_readCitizen : GoodIn wsX6_readItem (wsV RX6 55 RX6 yX6_readCitizen wsX6_readCitizen) := goodIn_app (goodIn_of _ (by decide +kernel)) ggX6_readItem_X6_readCitizen
theorem dX6_readItem_0 : decode cX6_readItem 0 = .ok (.aload_n 0, 1) := by decide +kernel
theorem dX6_readItem_1 : decode cX6_readItem 1 = .ok (.invokevirtual 38, 3) := by decide +kernel
theorem dX6_readItem_4 : decode cX6_readItem 4 = .ok (.istore_n 3, 1) := by decide +kernel
theorem dX6_readItem_5 : decode cX6_readItem 5 = .ok (.iload_n 3, 1) := by decide +kernel
theorem dX6_readItem_6 : decode cX6_readItem 6 = .ok (.bipush 121, 2) := by decide +kernel
theorem dX6_readItem_8 : decode cX6_readItem 8 = .ok (.if_icmp .ne 23, 3) := by decide +kernel
theorem dX6_readItem_11 : decode cX6_readItem 11 = .ok (.iload_n 2, 1) := by decide +kernel
theorem dX6_readItem_12 : decode cX6_readItem 12 = .ok (.ifCond .eq 19, 3) := by decide +kernel
theorem dX6_readItem_15 : decode cX6_readItem 15 = .ok (.aload_n 0, 1) := by decide +kernel
theorem dX6_readItem_16 : decode cX6_readItem 16 = .ok (.dup, 1) := by decide +kernel
theorem dX6_readItem_17 : decode cX6_readItem 17 = .ok (.getfield 24, 3) := by decide +kernel
theorem dX6_readItem_20 : decode cX6_readItem 20 = .ok (.iconst 1, 1) := by decide +kernel
theorem dX6_readItem_21 : decode cX6_readItem 21 = .ok (.iadd, 1) := by decide +kernel
theorem dX6_readItem_22 : decode cX6_readItem 22 = .ok (.putfield 24, 3) := by decide +kernel
theorem dX6_readItem_25 : decode cX6_readItem 25 = .ok (.aload_n 0, 1) := by decide +kernel
theorem dX6_readItem_26 : decode cX6_readItem 26 = .ok (.aload_n 1, 1) := by decide +kernel
theorem dX6_readItem_27 : decode cX6_readItem 27 = .ok (.invokevirtual 42, 3) := by decide +kernel
theorem dX6_readItem_30 : decode cX6_readItem 30 = .ok (.ireturn, 1) := by decide +kernel
theorem dX6_readItem_31 : decode cX6_readItem 31 = .ok (.iload_n 3, 1) := by decide +kernel
theorem dX6_readItem_32 : decode cX6_readItem 32 = .ok (.bipush 115, 2) := by decide +kernel
theorem dX6_readItem_34 : decode cX6_readItem 34 = .ok (.if_icmp .ne 28, 3) := by decide +kernel
theorem dX6_readItem_37 : decode cX6_readItem 37 = .ok (.aload_n 1, 1) := by decide +kernel
theorem dX6_readItem_38 : decode cX6_readItem 38 = .ok (.getfield 46, 3) := by decide +kernel
theorem dX6_readItem_41 : decode cX6_readItem 41 = .ok (.bipush 9, 2) := by decide +kernel
theorem dX6_readItem_43 : decode cX6_readItem 43 = .ok (.if_icmp .ge 19, 3) := by decide +kernel
theorem dX6_readItem_46 : decode cX6_readItem 46 = .ok (.aload_n 0, 1) := by decide +kernel
theorem dX6_readItem_47 : decode cX6_readItem 47 = .ok (.dup, 1) := by decide +kernel
theorem dX6_readItem_48 : decode cX6_readItem 48 = .ok (.getfield 24, 3) := by decide +kernel
theorem dX6_readItem_51 : decode cX6_readItem 51 = .ok (.iconst 1, 1) := by decide +kernel
theorem dX6_readItem_52 : decode cX6_readItem 52 = .ok (.iadd, 1) := by decide +kernel
theorem dX6_readItem_53 : decode cX6_readItem 53 = .ok (.putfield 24, 3) := by decide +kernel
theorem dX6_readItem_56 : decode cX6_readItem 56 = .ok (.aload_n 0, 1) := by decide +kernel
theorem dX6_readItem_57 : decode cX6_readItem 57 = .ok (.aload_n 1, 1) := by decide +kernel
theorem dX6_readItem_58 : decode cX6_readItem 58 = .ok (.invokevirtual 49, 3) := by decide +kernel
theorem dX6_readItem_61 : decode cX6_readItem 61 = .ok (.ireturn, 1) := by decide +kernel
theorem dX6_readItem_62 : decode cX6_readItem 62 = .ok (.iload_n 3, 1) := by decide +kernel
theorem dX6_readItem_63 : decode cX6_readItem 63 = .ok (.bipush 99, 2) := by decide +kernel
theorem dX6_readItem_65 : decode cX6_readItem 65 = .ok (.if_icmp .ne 28, 3) := by decide +kernel
theorem dX6_readItem_68 : decode cX6_readItem 68 = .ok (.aload_n 1, 1) := by decide +kernel
theorem dX6_readItem_69 : decode cX6_readItem 69 = .ok (.getfield 52, 3) := by decide +kernel
theorem dX6_readItem_72 : decode cX6_readItem 72 = .ok (.bipush 6, 2) := by decide +kernel
theorem dX6_readItem_74 : decode cX6_readItem 74 = .ok (.if_icmp .ge 19, 3) := by decide +kernel
theorem dX6_readItem_77 : decode cX6_readItem 77 = .ok (.aload_n 0, 1) := by decide +kernel
theorem dX6_readItem_78 : decode cX6_readItem 78 = .ok (.dup, 1) := by decide +kernel
theorem dX6_readItem_79 : decode cX6_readItem 79 = .ok (.getfield 24, 3) := by decide +kernel
theorem dX6_readItem_82 : decode cX6_readItem 82 = .ok (.iconst 1, 1) := by decide +kernel
theorem dX6_readItem_83 : decode cX6_readItem 83 = .ok (.iadd, 1) := by decide +kernel
theorem dX6_readItem_84 : decode cX6_readItem 84 = .ok (.putfield 24, 3) := by decide +kernel
theorem dX6_readItem_87 : decode cX6_readItem 87 = .ok (.aload_n 0, 1) := by decide +kernel
theorem dX6_readItem_88 : decode cX6_readItem 88 = .ok (.aload_n 1, 1) := by decide +kernel
theorem dX6_readItem_89 : decode cX6_readItem 89 = .ok (.invokevirtual 55, 3) := by decide +kernel
theorem dX6_readItem_92 : decode cX6_readItem 92 = .ok (.ireturn, 1) := by decide +kernel
theorem dX6_readItem_93 : decode cX6_readItem 93 = .ok (.iconst 0, 1) := by decide +kernel
theorem dX6_readItem_94 : decode cX6_readItem 94 = .ok (.ireturn, 1) := by decide +kernel
set_option maxRecDepth 20000 in
theorem ggX6_readYards_X6_readNumber : GoodIn wsX6_readYards wsX6_readNumber := goodIn_r _ [6, 7, 8, 9, 10, 5, 11, 12, 13, 14, 15, 16, 17, 18, 19, 20, 21, 22, 23, 24, 25, 26, 27, 28, 46, 47, 48] (by decide +kernel) (by decide +kernel)
set_option maxRecDepth 20000 in
theorem gX6_readYards_X6_readNumber : GoodIn wsX6_readYards (wsV RX6 58 RX6 yX6_readNumber wsX6_readNumber) := goodIn_app (goodIn_of _ (by decide +kernel)) ggX6_readYards_X6_readNumber
theorem dX6_readYards_0 : decode cX6_readYards 0 = .ok (.aload_n 0, 1) := by decide +kernel
theorem dX6_readYards_1 : decode cX6_readYards 1 = .ok (.iconst 2, 1) := by decide +kernel
theorem dX6_readYards_2 : decode cX6_readYards 2 = .ok (.bipush 8, 2) := by decide +kernel
theorem dX6_readYards_4 : decode cX6_readYards 4 = .ok (.iconst (-1), 1) := by decide +kernel
theorem dX6_readYards_5 : decode cX6_readYards 5 = .ok (.invokevirtual 58, 3) := by decide +kernel
theorem dX6_readYards_8 : decode cX6_readYards 8 = .ok (.istore_n 2, 1) := by decide +kernel
theorem dX6_readYards_9 : decode cX6_readYards 9 = .ok (.iload_n 2, 1) := by decide +kernel
theorem dX6_readYards_10 : decode cX6_readYards 10 = .ok (.iconst (-1), 1) := by decide +kernel
theorem dX6_readYards_11 : decode cX6_readYards 11 = .ok (.if_icmp .ne 5, 3) := by decide +kernel
theorem dX6_readYards_14 : decode cX6_readYards 14 = .ok (.iconst 0, 1) := by decide +kernel
theorem dX6_readYards_15 : decode cX6_readYards 15 = .ok (.ireturn, 1) := by decide +kernel
theorem dX6_readYards_16 : decode cX6_readYards 16 = .ok (.aload_n 1, 1) := by decide +kernel
theorem dX6_readYards_17 : decode cX6_readYards 17 = .ok (.iload_n 2, 1) := by decide +kernel
theorem dX6_readYards_18 : decode cX6_readYards 18 = .ok (.putfield 62, 3) := by decide +kernel
theorem dX6_readYards_21 : decode cX6_readYards 21 = .ok (.iconst 1, 1) := by decide +kernel
theorem dX6_readYards_22 : decode cX6_readYards 22 = .ok (.ireturn, 1) := by decide +kernel
set_option maxRecDepth 20000 in
theorem ggX6_readStreet_X6_readNumber : GoodIn wsX6_readStreet wsX6_readNumber := goodIn_r _ [10, 11, 12, 13, 14, 9, 15, 16, 17, 18, 19, 20, 21, 22, 23, 24, 25, 26, 27, 28, 29, 30, 31, 32, 50, 51, 52] (by decide +kernel) (by decide +kernel)
set_option maxRecDepth 20000 in
theorem gX6_readStreet_X6_readNumber : GoodIn wsX6_readStreet (wsV RX6 58 RX6 yX6_readNumber wsX6_readNumber) := goodIn_app (goodIn_of _ (by decide +kernel)) ggX6_readStreet_X6_readNumber
theorem dX6_readStreet_0 : decode cX6_readStreet 0 = .ok (.aload_n 0, 1) := by decide +kernel
theorem dX6_readStreet_1 : decode cX6_readStreet 1 = .ok (.iconst 0, 1) := by decide +kernel
theorem dX6_readStreet_2 : decode cX6_readStreet 2 = .ok (.aload_n 1, 1) := by decide +kernel
theorem dX6_readStreet_3 : decode cX6_readStreet 3 = .ok (.getfield 62, 3) := by decide +kernel
theorem dX6_readStreet_6 : decode cX6_readStreet 6 = .ok (.iconst 1, 1) := by decide +kernel
theorem dX6_readStreet_7 : decode cX6_readStreet 7 = .ok (.isub, 1) := by decide +kernel
theorem dX6_readStreet_8 : decode cX6_readStreet 8 = .ok (.iconst (-1), 1) := by decide +kernel
theorem dX6_readStreet_9 : decode cX6_readStreet 9 = .ok (.invokevirtual 58, 3) := by decide +kernel
theorem dX6_readStreet_12 : decode cX6_readStreet 12 = .ok (.istore_n 2, 1) := by decide +kernel
theorem dX6_readStreet_13 : decode cX6_readStreet 13 = .ok (.iload_n 2, 1) := by decide +kernel
theorem dX6_readStreet_14 : decode cX6_readStreet 14 = .ok (.iconst (-1), 1) := by decide +kernel
theorem dX6_readStreet_15 : decode cX6_readStreet 15 = .ok (.if_icmp .ne 5, 3) := by decide +kernel
theorem dX6_readStreet_18 : decode cX6_readStreet 18 = .ok (.iconst 0, 1) := by decide +kernel
theorem dX6_readStreet_19 : decode cX6_readStreet 19 = .ok (.ireturn, 1) := by decide +kernel
theorem dX6_readStreet_20 : decode cX6_readStreet 20 = .ok (.aload_n 0, 1) := by decide +kernel
theorem dX6_readStreet_21 : decode cX6_readStreet 21 = .ok (.iconst 0, 1) := by decide +kernel
theorem dX6_readStreet_22 : decode cX6_readStreet 22 = .ok (.aload_n 1, 1) := by decide +kernel
theorem dX6_readStreet_23 : decode cX6_readStreet 23 = .ok (.getfield 62, 3) := by decide +kernel
theorem dX6_readStreet_26 : decode cX6_readStreet 26 = .ok (.iconst 1, 1) := by decide +kernel
theorem dX6_readStreet_27 : decode cX6_readStreet 27 = .ok (.isub, 1) := by decide +kernel
theorem dX6_readStreet_28 : decode cX6_readStreet 28 = .ok (.iload_n 2, 1) := by decide +kernel
theorem dX6_readStreet_29 : decode cX6_readStreet 29 = .ok (.invokevirtual 58, 3) := by decide +kernel
theorem dX6_readStreet_32 : decode cX6_readStreet 32 = .ok (.istore_n 3, 1) := by decide +kernel
theorem dX6_readStreet_33 : decode cX6_readStreet 33 = .ok (.iload_n 3, 1) := by decide +kernel
theorem dX6_readStreet_34 : decode cX6_readStreet 34 = .ok (.iconst (-1), 1) := by decide +kernel
theorem dX6_readStreet_35 : decode cX6_readStreet 35 = .ok (.if_icmp .ne 5, 3) := by decide +kernel
theorem dX6_readStreet_38 : decode cX6_readStreet 38 = .ok (.iconst 0, 1) := by decide +kernel
theorem dX6_readStreet_39 : decode cX6_readStreet 39 = .ok (.ireturn, 1) := by decide +kernel
theorem dX6_readStreet_40 : decode cX6_readStreet 40 = .ok (.aload_n 0, 1) := by decide +kernel
theorem dX6_readStreet_41 : decode cX6_readStreet 41 = .ok (.iconst 0, 1) := by decide +kernel
theorem dX6_readStreet_42 : decode cX6_readStreet 42 = .ok (.bipush 9, 2) := by decide +kernel
theorem dX6_readStreet_44 : decode cX6_readStreet 44 = .ok (.iconst (-1), 1) := by decide +kernel
theorem dX6_readStreet_45 : decode cX6_readStreet 45 = .ok (.invokevirtual 58, 3) := by decide +kernel
theorem dX6_readStreet_48 : decode cX6_readStreet 48 = .ok (.istore 4, 2) := by decide +kernel
theorem dX6_readStreet_50 : decode cX6_readStreet 50 = .ok (.iload 4, 2) := by decide +kernel
theorem dX6_readStreet_52 : decode cX6_readStreet 52 = .ok (.iconst (-1), 1) := by decide +kernel
theorem dX6_readStreet_53 : decode cX6_readStreet 53 = .ok (.if_icmp .ne 5, 3) := by decide +kernel
theorem dX6_readStreet_56 : decode cX6_readStreet 56 = .ok (.iconst 0, 1) := by decide +kernel
theorem dX6_readStreet_57 : decode cX6_readStreet 57 = .ok (.ireturn, 1) := by decide +kernel
theorem dX6_readStreet_58 : decode cX6_readStreet 58 = .ok (.aload_n 1, 1) := by decide +kernel
theorem dX6_readStreet_59 : decode cX6_readStreet 59 = .ok (.getfield 65, 3) := by decide +kernel
theorem dX6_readStreet_62 : decode cX6_readStreet 62 = .ok (.aload_n 1, 1) := by decide +kernel
theorem dX6_readStreet_63 : decode cX6_readStreet 63 = .ok (.getfield 46, 3) := by decide +kernel
theorem dX6_readStreet_66 : decode cX6_readStreet 66 = .ok (.iload_n 2, 1) := by decide +kernel
theorem dX6_readStreet_67 : decode cX6_readStreet 67 = .ok (.iastore, 1) := by decide +kernel
theorem dX6_readStreet_68 : decode cX6_readStreet 68 = .ok (.aload_n 1, 1) := by decide +kernel
theorem dX6_readStreet_69 : decode cX6_readStreet 69 = .ok (.getfield 68, 3) := by decide +kernel
theorem dX6_readStreet_72 : decode cX6_readStreet 72 = .ok (.aload_n 1, 1) := by decide +kernel
theorem dX6_readStreet_73 : decode cX6_readStreet 73 = .ok (.getfield 46, 3) := by decide +kernel
theorem dX6_readStreet_76 : decode cX6_readStreet 76 = .ok (.iload_n 3, 1) := by decide +kernel
theorem dX6_readStreet_77 : decode cX6_readStreet 77 = .ok (.iastore, 1) := by decide +kernel
theorem dX6_readStreet_78 : decode cX6_readStreet 78 = .ok (.aload_n 1, 1) := by decide +kernel
theorem dX6_readStreet_79 : decode cX6_readStreet 79 = .ok (.getfield 71, 3) := by decide +kernel
theorem dX6_readStreet_82 : decode cX6_readStreet 82 = .ok (.aload_n 1, 1) := by decide +kernel
theorem dX6_readStreet_83 : decode cX6_readStreet 83 = .ok (.getfield 46, 3) := by decide +kernel
theorem dX6_readStreet_86 : decode cX6_readStreet 86 = .ok (.iload 4, 2) := by decide +kernel
theorem dX6_readStreet_88 : decode cX6_readStreet 88 = .ok (.iastore, 1) := by decide +kernel
theorem dX6_readStreet_89 : decode cX6_readStreet 89 = .ok (.aload_n 1, 1) := by decide +kernel
theorem dX6_readStreet_90 : decode cX6_readStreet 90 = .ok (.dup, 1) := by decide +kernel
theorem dX6_readStreet_91 : decode cX6_readStreet 91 = .ok (.getfield 46, 3) := by decide +kernel
theorem dX6_readStreet_94 : decode cX6_readStreet 94 = .ok (.iconst 1, 1) := by decide +kernel
theorem dX6_readStreet_95 : decode cX6_readStreet 95 = .ok (.iadd, 1) := by decide +kernel
theorem dX6_readStreet_96 : decode cX6_readStreet 96 = .ok (.putfield 46, 3) := by decide +kernel
theorem dX6_readStreet_99 : decode cX6_readStreet 99 = .ok (.iconst 1, 1) := by decide +kernel
theorem dX6_readStreet_100 : decode cX6_readStreet 100 = .ok (.ireturn, 1) := by decide +kernel
set_option maxRecDepth 20000 in
theorem ggX6_readCitizen_X6_readNumber : GoodIn wsX6_readCitizen wsX6_readNumber := goodIn_r _ [9, 10, 11, 12, 13, 8, 14, 15, 16, 17, 18, 19, 20, 21, 22, 23, 24, 25, 26, 27, 28, 29, 30, 31, 49, 50, 51] (by decide +kernel) (by decide +kernel)
set_option maxRecDepth 20000 in
theorem gX6_readCitizen_X6_readNumber : GoodIn wsX6_readCitizen (wsV RX6 58 RX6 yX6_readNumber wsX6_readNumber) := goodIn_app (goodIn_of _ (by decide +kernel)) ggX6_readCitizen_X6_readNumber
theorem dX6_readCitizen_0 : decode cX6_readCitizen 0 = .ok (.aload_n 0, 1) := by decide +kernel
theorem dX6_readCitizen_1 : decode cX6_readCitizen 1 = .ok (.iconst 0, 1) := by decide +kernel
theorem dX6_readCitizen_2 : decode cX6_readCitizen 2 = .ok (.aload_n 1, 1) := by decide +kernel
theorem dX6_readCitizen_3 : decode cX6_readCitizen 3 = .ok (.getfield 46, 3) := by decide +kernel
theorem dX6_readCitizen_6 : decode cX6_readCitizen 6 = .ok (.iconst 1, 1) := by decide +kernel
theorem dX6_readCitizen_7 : decode cX6_readCitizen 7 = .ok (.isub, 1) := by decide +kernel
theorem dX6_readCitizen_8 : decode cX6_readCitizen 8 = .ok (.iconst (-1), 1) := by decide +kernel
theorem dX6_readCitizen_9 : decode cX6_readCitizen 9 = .ok (.invokevirtual 58, 3) := by decide +kernel
theorem dX6_readCitizen_12 : decode cX6_readCitizen 12 = .ok (.istore_n 2, 1) := by decide +kernel
theorem dX6_readCitizen_13 : decode cX6_readCitizen 13 = .ok (.iload_n 2, 1) := by decide +kernel
theorem dX6_readCitizen_14 : decode cX6_readCitizen 14 = .ok (.iconst (-1), 1) := by decide +kernel
theorem dX6_readCitizen_15 : decode cX6_readCitizen 15 = .ok (.if_icmp .ne 5, 3) := by decide +kernel
theorem dX6_readCitizen_18 : decode cX6_readCitizen 18 = .ok (.iconst 0, 1) := by decide +kernel
theorem dX6_readCitizen_19 : decode cX6_readCitizen 19 = .ok (.ireturn, 1) := by decide +kernel
theorem dX6_readCitizen_20 : decode cX6_readCitizen 20 = .ok (.aload_n 0, 1) := by decide +kernel
theorem dX6_readCitizen_21 : decode cX6_readCitizen 21 = .ok (.iconst 1, 1) := by decide +kernel
theorem dX6_readCitizen_22 : decode cX6_readCitizen 22 = .ok (.bipush 10, 2) := by decide +kernel
theorem dX6_readCitizen_24 : decode cX6_readCitizen 24 = .ok (.iconst (-1), 1) := by decide +kernel
theorem dX6_readCitizen_25 : decode cX6_readCitizen 25 = .ok (.invokevirtual 58, 3) := by decide +kernel
theorem dX6_readCitizen_28 : decode cX6_readCitizen 28 = .ok (.istore_n 3, 1) := by decide +kernel
theorem dX6_readCitizen_29 : decode cX6_readCitizen 29 = .ok (.iload_n 3, 1) := by decide +kernel
theorem dX6_readCitizen_30 : decode cX6_readCitizen 30 = .ok (.iconst (-1), 1) := by decide +kernel
theorem dX6_readCitizen_31 : decode cX6_readCitizen 31 = .ok (.if_icmp .ne 5, 3) := by decide +kernel
theorem dX6_readCitizen_34 : decode cX6_readCitizen 34 = .ok (.iconst 0, 1) := by decide +kernel
theorem dX6_readCitizen_35 : decode cX6_readCitizen 35 = .ok (.ireturn, 1) := by decide +kernel
theorem dX6_readCitizen_36 : decode cX6_readCitizen 36 = .ok (.aload_n 1, 1) := by decide +kernel
theorem dX6_readCitizen_37 : decode cX6_readCitizen 37 = .ok (.getfield 74, 3) := by decide +kernel
theorem dX6_readCitizen_40 : decode cX6_readCitizen 40 = .ok (.aload_n 1, 1) := by decide +kernel
theorem dX6_readCitizen_41 : decode cX6_readCitizen 41 = .ok (.getfield 52, 3) := by decide +kernel
theorem dX6_readCitizen_44 : decode cX6_readCitizen 44 = .ok (.iload_n 2, 1) := by decide +kernel
theorem dX6_readCitizen_45 : decode cX6_readCitizen 45 = .ok (.iastore, 1) := by decide +kernel
theorem dX6_readCitizen_46 : decode cX6_readCitizen 46 = .ok (.aload_n 1, 1) := by decide +kernel
theorem dX6_readCitizen_47 : decode cX6_readCitizen 47 = .ok (.getfield 77, 3) := by decide +kernel
theorem dX6_readCitizen_50 : decode cX6_readCitizen 50 = .ok (.aload_n 1, 1) := by decide +kernel
theorem dX6_readCitizen_51 : decode cX6_readCitizen 51 = .ok (.getfield 52, 3) := by decide +kernel
theorem dX6_readCitizen_54 : decode cX6_readCitizen 54 = .ok (.iload_n 3, 1) := by decide +kernel
theorem dX6_readCitizen_55 : decode cX6_readCitizen 55 = .ok (.iastore, 1) := by decide +kernel
theorem dX6_readCitizen_56 : decode cX6_readCitizen 56 = .ok (.aload_n 1, 1) := by decide +kernel
theorem dX6_readCitizen_57 : decode cX6_readCitizen 57 = .ok (.dup, 1) := by decide +kernel
theorem dX6_readCitizen_58 : decode cX6_readCitizen 58 = .ok (.getfield 52, 3) := by decide +kernel
theorem dX6_readCitizen_61 : decode cX6_readCitizen 61 = .ok (.iconst 1, 1) := by decide +kernel
theorem dX6_readCitizen_62 : decode cX6_readCitizen 62 = .ok (.iadd, 1) := by decide +kernel
theorem dX6_readCitizen_63 : decode cX6_readCitizen 63 = .ok (.putfield 52, 3) := by decide +kernel
theorem dX6_readCitizen_66 : decode cX6_readCitizen 66 = .ok (.iconst 1, 1) := by decide +kernel
theorem dX6_readCitizen_67 : decode cX6_readCitizen 67 = .ok (.ireturn, 1) := by decide +kernel
set_option maxRecDepth 20000 in
theorem ggX6_readEnd_X6_skipBlanks : GoodIn wsX6_readEnd wsX6_skipBlanks := goodIn_r _ [6, 1, 7, 8, 9, 10, 5, 11, 12, 13, 14, 15] (by decide +kernel) (by decide +kernel)
set_option maxRecDepth 20000 in
theorem gX6_readEnd_X6_skipBlanks : GoodIn wsX6_readEnd (wsV RX6 27 RX6 yX6_skipBlanks wsX6_skipBlanks) := goodIn_app (goodIn_of _ (by decide +kernel)) ggX6_readEnd_X6_skipBlanks
set_option maxRecDepth 20000 in
theorem ggX6_readEnd_X6_byteAt : GoodIn wsX6_readEnd wsX6_byteAt := goodIn_r _ [11, 7, 12, 13, 14, 15] (by decide +kernel) (by decide +kernel)
set_option maxRecDepth 20000 in
theorem gX6_readEnd_X6_byteAt : GoodIn wsX6_readEnd (wsV RX6 80 RX6 yX6_byteAt wsX6_byteAt) := goodIn_app (goodIn_of _ (by decide +kernel)) ggX6_readEnd_X6_byteAt
theorem dX6_readEnd_0 : decode cX6_readEnd 0 = .ok (.aload_n 0, 1) := by decide +kernel
theorem dX6_readEnd_1 : decode cX6_readEnd 1 = .ok (.invokevirtual 27, 3) := by decide +kernel
theorem dX6_readEnd_4 : decode cX6_readEnd 4 = .ok (.aload_n 0, 1) := by decide +kernel
theorem dX6_readEnd_5 : decode cX6_readEnd 5 = .ok (.aload_n 0, 1) := by decide +kernel
theorem dX6_readEnd_6 : decode cX6_readEnd 6 = .ok (.getfield 24, 3) := by decide +kernel
theorem dX6_readEnd_9 : decode cX6_readEnd 9 = .ok (.invokevirtual 80, 3) := by decide +kernel
theorem dX6_readEnd_12 : decode cX6_readEnd 12 = .ok (.bipush 59, 2) := by decide +kernel
theorem dX6_readEnd_14 : decode cX6_readEnd 14 = .ok (.if_icmp .eq 5, 3) := by decide +kernel
theorem dX6_readEnd_17 : decode cX6_readEnd 17 = .ok (.iconst 0, 1) := by decide +kernel
theorem dX6_readEnd_18 : decode cX6_readEnd 18 = .ok (.ireturn, 1) := by decide +kernel
theorem dX6_readEnd_19 : decode cX6_readEnd 19 = .ok (.aload_n 0, 1) := by decide +kernel
theorem dX6_readEnd_20 : decode cX6_readEnd 20 = .ok (.dup, 1) := by decide +kernel
theorem dX6_readEnd_21 : decode cX6_readEnd 21 = .ok (.getfield 24, 3) := by decide +kernel
theorem dX6_readEnd_24 : decode cX6_readEnd 24 = .ok (.iconst 1, 1) := by decide +kernel
theorem dX6_readEnd_25 : decode cX6_readEnd 25 = .ok (.iadd, 1) := by decide +kernel
theorem dX6_readEnd_26 : decode cX6_readEnd 26 = .ok (.putfield 24, 3) := by decide +kernel
theorem dX6_readEnd_29 : decode cX6_readEnd 29 = .ok (.iconst 1, 1) := by decide +kernel
theorem dX6_readEnd_30 : decode cX6_readEnd 30 = .ok (.ireturn, 1) := by decide +kernel
set_option maxRecDepth 20000 in
theorem ggX6_readNumber_X6_skipBlanks : GoodIn wsX6_readNumber wsX6_skipBlanks := goodIn_r _ [6, 1, 7, 8, 9, 10, 5, 11, 12, 24, 25, 26] (by decide +kernel) (by decide +kernel)
set_option maxRecDepth 20000 in
theorem gX6_readNumber_X6_skipBlanks : GoodIn wsX6_readNumber (wsV RX6 27 RX6 yX6_skipBlanks wsX6_skipBlanks) := goodIn_app (goodIn_of _ (by decide +kernel)) ggX6_readNumber_X6_skipBlanks
set_option maxRecDepth 20000 in
theorem ggX6_readNumber_X6_digitsHere : GoodIn wsX6_readNumber wsX6_digitsHere := goodIn_r _ [16, 1, 8, 9, 10, 5, 11, 7, 12, 17, 18, 19, 24, 25, 26] (by decide +kernel) (by decide +kernel)
set_option maxRecDepth 20000 in
theorem gX6_readNumber_X6_digitsHere : GoodIn wsX6_readNumber (wsV RX6 84 RX6 yX6_digitsHere wsX6_digitsHere) := goodIn_app (goodIn_of _ (by decide +kernel)) ggX6_readNumber_X6_digitsHere
set_option maxRecDepth 20000 in
theorem ggX6_readNumber_X6_numberOf : GoodIn wsX6_readNumber wsX6_numberOf := goodIn_r _ [23, 1, 8, 9, 10, 5, 11, 7, 12, 24, 25, 26] (by decide +kernel) (by decide +kernel)
set_option maxRecDepth 20000 in
theorem gX6_readNumber_X6_numberOf : GoodIn wsX6_readNumber (wsV RX6 87 RX6 yX6_numberOf wsX6_numberOf) := goodIn_app (goodIn_of _ (by decide +kernel)) ggX6_readNumber_X6_numberOf
theorem dX6_readNumber_0 : decode cX6_readNumber 0 = .ok (.aload_n 0, 1) := by decide +kernel
theorem dX6_readNumber_1 : decode cX6_readNumber 1 = .ok (.invokevirtual 27, 3) := by decide +kernel
theorem dX6_readNumber_4 : decode cX6_readNumber 4 = .ok (.aload_n 0, 1) := by decide +kernel
theorem dX6_readNumber_5 : decode cX6_readNumber 5 = .ok (.invokevirtual 84, 3) := by decide +kernel
theorem dX6_readNumber_8 : decode cX6_readNumber 8 = .ok (.istore 4, 2) := by decide +kernel
theorem dX6_readNumber_10 : decode cX6_readNumber 10 = .ok (.aload_n 0, 1) := by decide +kernel
theorem dX6_readNumber_11 : decode cX6_readNumber 11 = .ok (.iload 4, 2) := by decide +kernel
theorem dX6_readNumber_13 : decode cX6_readNumber 13 = .ok (.invokevirtual 87, 3) := by decide +kernel
theorem dX6_readNumber_16 : decode cX6_readNumber 16 = .ok (.istore 5, 2) := by decide +kernel
theorem dX6_readNumber_18 : decode cX6_readNumber 18 = .ok (.iload 5, 2) := by decide +kernel
theorem dX6_readNumber_20 : decode cX6_readNumber 20 = .ok (.iload_n 1, 1) := by decide +kernel
theorem dX6_readNumber_21 : decode cX6_readNumber 21 = .ok (.if_icmp .lt 15, 3) := by decide +kernel
theorem dX6_readNumber_24 : decode cX6_readNumber 24 = .ok (.iload 5, 2) := by decide +kernel
theorem dX6_readNumber_26 : decode cX6_readNumber 26 = .ok (.iload_n 2, 1) := by decide +kernel
theorem dX6_readNumber_27 : decode cX6_readNumber 27 = .ok (.if_icmp .gt 9, 3) := by decide +kernel
theorem dX6_readNumber_30 : decode cX6_readNumber 30 = .ok (.iload 5, 2) := by decide +kernel
theorem dX6_readNumber_32 : decode cX6_readNumber 32 = .ok (.iload_n 3, 1) := by decide +kernel
theorem dX6_readNumber_33 : decode cX6_readNumber 33 = .ok (.if_icmp .ne 5, 3) := by decide +kernel
theorem dX6_readNumber_36 : decode cX6_readNumber 36 = .ok (.iconst (-1), 1) := by decide +kernel
theorem dX6_readNumber_37 : decode cX6_readNumber 37 = .ok (.ireturn, 1) := by decide +kernel
theorem dX6_readNumber_38 : decode cX6_readNumber 38 = .ok (.aload_n 0, 1) := by decide +kernel
theorem dX6_readNumber_39 : decode cX6_readNumber 39 = .ok (.dup, 1) := by decide +kernel
theorem dX6_readNumber_40 : decode cX6_readNumber 40 = .ok (.getfield 24, 3) := by decide +kernel
theorem dX6_readNumber_43 : decode cX6_readNumber 43 = .ok (.iload 4, 2) := by decide +kernel
theorem dX6_readNumber_45 : decode cX6_readNumber 45 = .ok (.iadd, 1) := by decide +kernel
theorem dX6_readNumber_46 : decode cX6_readNumber 46 = .ok (.putfield 24, 3) := by decide +kernel
theorem dX6_readNumber_49 : decode cX6_readNumber 49 = .ok (.iload 5, 2) := by decide +kernel
theorem dX6_readNumber_51 : decode cX6_readNumber 51 = .ok (.ireturn, 1) := by decide +kernel
set_option maxRecDepth 20000 in
theorem ggX6_digitsHere_X6_byteAt : GoodIn wsX6_digitsHere wsX6_byteAt := goodIn_r _ [6, 7, 8, 12, 13, 14] (by decide +kernel) (by decide +kernel)
set_option maxRecDepth 20000 in
theorem gX6_digitsHere_X6_byteAt : GoodIn wsX6_digitsHere (wsV RX6 80 RX6 yX6_byteAt wsX6_byteAt) := goodIn_app (goodIn_of _ (by decide +kernel)) ggX6_digitsHere_X6_byteAt
set_option maxRecDepth 20000 in
theorem ggX6_digitsHere_X6_isDigit : GoodIn wsX6_digitsHere wsX6_isDigit := goodIn_r _ [11] (by decide +kernel) (by decide +kernel)
set_option maxRecDepth 20000 in
theorem gX6_digitsHere_X6_isDigit : GoodIn wsX6_digitsHere (va_wsS RX6 90 yX6_isDigit wsX6_isDigit) := goodIn_app (goodIn_of _ (by decide +kernel)) ggX6_digitsHere_X6_isDigit
theorem dX6_digitsHere_0 : decode cX6_digitsHere 0 = .ok (.iconst 0, 1) := by decide +kernel
theorem dX6_digitsHere_1 : decode cX6_digitsHere 1 = .ok (.istore_n 1, 1) := by decide +kernel
theorem dX6_digitsHere_2 : decode cX6_digitsHere 2 = .ok (.iload_n 1, 1) := by decide +kernel
theorem dX6_digitsHere_3 : decode cX6_digitsHere 3 = .ok (.bipush 120, 2) := by decide +kernel
theorem dX6_digitsHere_5 : decode cX6_digitsHere 5 = .ok (.if_icmp .ge 25, 3) := by decide +kernel
theorem dX6_digitsHere_8 : decode cX6_digitsHere 8 = .ok (.aload_n 0, 1) := by decide +kernel
theorem dX6_digitsHere_9 : decode cX6_digitsHere 9 = .ok (.aload_n 0, 1) := by decide +kernel
theorem dX6_digitsHere_10 : decode cX6_digitsHere 10 = .ok (.getfield 24, 3) := by decide +kernel
theorem dX6_digitsHere_13 : decode cX6_digitsHere 13 = .ok (.iload_n 1, 1) := by decide +kernel
theorem dX6_digitsHere_14 : decode cX6_digitsHere 14 = .ok (.iadd, 1) := by decide +kernel
theorem dX6_digitsHere_15 : decode cX6_digitsHere 15 = .ok (.invokevirtual 80, 3) := by decide +kernel
theorem dX6_digitsHere_18 : decode cX6_digitsHere 18 = .ok (.invokestatic 90, 3) := by decide +kernel
theorem dX6_digitsHere_21 : decode cX6_digitsHere 21 = .ok (.ifCond .eq 9, 3) := by decide +kernel
theorem dX6_digitsHere_24 : decode cX6_digitsHere 24 = .ok (.iinc 1 1, 3) := by decide +kernel
theorem dX6_digitsHere_27 : decode cX6_digitsHere 27 = .ok (.goto (-25), 3) := by decide +kernel
theorem dX6_digitsHere_30 : decode cX6_digitsHere 30 = .ok (.iload_n 1, 1) := by decide +kernel
theorem dX6_digitsHere_31 : decode cX6_digitsHere 31 = .ok (.ireturn, 1) := by decide +kernel
set_option maxRecDepth 20000 in
theorem ggX6_numberOf_X6_byteAt : GoodIn wsX6_numberOf wsX6_byteAt := goodIn_r _ [6, 7, 8, 9, 10, 11] (by decide +kernel) (by decide +kernel)
set_option maxRecDepth 20000 in
theorem gX6_numberOf_X6_byteAt : GoodIn wsX6_numberOf (wsV RX6 80 RX6 yX6_byteAt wsX6_byteAt) := goodIn_app (goodIn_of _ (by decide +kernel)) ggX6_numberOf_X6_byteAt
theorem dX6_numberOf_0 : decode cX6_numberOf 0 = .ok (.iload_n 1, 1) := by decide +kernel
theorem dX6_numberOf_1 : decode cX6_numberOf 1 = .ok (.iconst 1, 1) := by decide +kernel
theorem dX6_numberOf_2 : decode cX6_numberOf 2 = .ok (.if_icmp .ne 15, 3) := by decide +kernel
theorem dX6_numberOf_5 : decode cX6_numberOf 5 = .ok (.aload_n 0, 1) := by decide +kernel
theorem dX6_numberOf_6 : decode cX6_numberOf 6 = .ok (.aload_n 0, 1) := by decide +kernel
theorem dX6_numberOf_7 : decode cX6_numberOf 7 = .ok (.getfield 24, 3) := by decide +kernel
theorem dX6_numberOf_10 : decode cX6_numberOf 10 = .ok (.invokevirtual 80, 3) := by decide +kernel
theorem dX6_numberOf_13 : decode cX6_numberOf 13 = .ok (.bipush 48, 2) := by decide +kernel
theorem dX6_numberOf_15 : decode cX6_numberOf 15 = .ok (.isub, 1) := by decide +kernel
theorem dX6_numberOf_16 : decode cX6_numberOf 16 = .ok (.ireturn, 1) := by decide +kernel
theorem dX6_numberOf_17 : decode cX6_numberOf 17 = .ok (.iload_n 1, 1) := by decide +kernel
theorem dX6_numberOf_18 : decode cX6_numberOf 18 = .ok (.iconst 2, 1) := by decide +kernel
theorem dX6_numberOf_19 : decode cX6_numberOf 19 = .ok (.if_icmp .ne 45, 3) := by decide +kernel
theorem dX6_numberOf_22 : decode cX6_numberOf 22 = .ok (.aload_n 0, 1) := by decide +kernel
theorem dX6_numberOf_23 : decode cX6_numberOf 23 = .ok (.aload_n 0, 1) := by decide +kernel
theorem dX6_numberOf_24 : decode cX6_numberOf 24 = .ok (.getfield 24, 3) := by decide +kernel
theorem dX6_numberOf_27 : decode cX6_numberOf 27 = .ok (.invokevirtual 80, 3) := by decide +kernel
theorem dX6_numberOf_30 : decode cX6_numberOf 30 = .ok (.bipush 48, 2) := by decide +kernel
theorem dX6_numberOf_32 : decode cX6_numberOf 32 = .ok (.if_icmp .eq 32, 3) := by decide +kernel
theorem dX6_numberOf_35 : decode cX6_numberOf 35 = .ok (.bipush 10, 2) := by decide +kernel
theorem dX6_numberOf_37 : decode cX6_numberOf 37 = .ok (.aload_n 0, 1) := by decide +kernel
theorem dX6_numberOf_38 : decode cX6_numberOf 38 = .ok (.aload_n 0, 1) := by decide +kernel
theorem dX6_numberOf_39 : decode cX6_numberOf 39 = .ok (.getfield 24, 3) := by decide +kernel
theorem dX6_numberOf_42 : decode cX6_numberOf 42 = .ok (.invokevirtual 80, 3) := by decide +kernel
theorem dX6_numberOf_45 : decode cX6_numberOf 45 = .ok (.bipush 48, 2) := by decide +kernel
theorem dX6_numberOf_47 : decode cX6_numberOf 47 = .ok (.isub, 1) := by decide +kernel
theorem dX6_numberOf_48 : decode cX6_numberOf 48 = .ok (.imul, 1) := by decide +kernel
theorem dX6_numberOf_49 : decode cX6_numberOf 49 = .ok (.aload_n 0, 1) := by decide +kernel
theorem dX6_numberOf_50 : decode cX6_numberOf 50 = .ok (.aload_n 0, 1) := by decide +kernel
theorem dX6_numberOf_51 : decode cX6_numberOf 51 = .ok (.getfield 24, 3) := by decide +kernel
theorem dX6_numberOf_54 : decode cX6_numberOf 54 = .ok (.iconst 1, 1) := by decide +kernel
theorem dX6_numberOf_55 : decode cX6_numberOf 55 = .ok (.iadd, 1) := by decide +kernel
theorem dX6_numberOf_56 : decode cX6_numberOf 56 = .ok (.invokevirtual 80, 3) := by decide +kernel
theorem dX6_numberOf_59 : decode cX6_numberOf 59 = .ok (.iadd, 1) := by decide +kernel
theorem dX6_numberOf_60 : decode cX6_numberOf 60 = .ok (.bipush 48, 2) := by decide +kernel
theorem dX6_numberOf_62 : decode cX6_numberOf 62 = .ok (.isub, 1) := by decide +kernel
theorem dX6_numberOf_63 : decode cX6_numberOf 63 = .ok (.ireturn, 1) := by decide +kernel
theorem dX6_numberOf_64 : decode cX6_numberOf 64 = .ok (.iconst (-1), 1) := by decide +kernel
theorem dX6_numberOf_65 : decode cX6_numberOf 65 = .ok (.ireturn, 1) := by decide +kernel
set_option maxRecDepth 20000 in
theorem ggX6_loneLetter_X6_byteAt : GoodIn wsX6_loneLetter wsX6_byteAt := goodIn_r _ [6, 7, 8, 12, 13, 14] (by decide +kernel) (by decide +kernel)
set_option maxRecDepth 20000 in
theorem gX6_loneLetter_X6_byteAt : GoodIn wsX6_loneLetter (wsV RX6 80 RX6 yX6_byteAt wsX6_byteAt) := goodIn_app (goodIn_of _ (by decide +kernel)) ggX6_loneLetter_X6_byteAt
set_option maxRecDepth 20000 in
theorem ggX6_loneLetter_X6_isLetter : GoodIn wsX6_loneLetter wsX6_isLetter := goodIn_r _ [11] (by decide +kernel) (by decide +kernel)
set_option maxRecDepth 20000 in
theorem gX6_loneLetter_X6_isLetter : GoodIn wsX6_loneLetter (va_wsS RX6 94 yX6_isLetter wsX6_isLetter) := goodIn_app (goodIn_of _ (by decide +kernel)) ggX6_loneLetter_X6_isLetter
theorem dX6_loneLetter_0 : decode cX6_loneLetter 0 = .ok (.aload_n 0, 1) := by decide +kernel
theorem dX6_loneLetter_1 : decode cX6_loneLetter 1 = .ok (.aload_n 0, 1) := by decide +kernel
theorem dX6_loneLetter_2 : decode cX6_loneLetter 2 = .ok (.getfield 24, 3) := by decide +kernel
theorem dX6_loneLetter_5 : decode cX6_loneLetter 5 = .ok (.iconst 1, 1) := by decide +kernel
theorem dX6_loneLetter_6 : decode cX6_loneLetter 6 = .ok (.iadd, 1) := by decide +kernel
theorem dX6_loneLetter_7 : decode cX6_loneLetter 7 = .ok (.invokevirtual 80, 3) := by decide +kernel
theorem dX6_loneLetter_10 : decode cX6_loneLetter 10 = .ok (.invokestatic 94, 3) := by decide +kernel
theorem dX6_loneLetter_13 : decode cX6_loneLetter 13 = .ok (.ifCond .eq 7, 3) := by decide +kernel
theorem dX6_loneLetter_16 : decode cX6_loneLetter 16 = .ok (.iconst (-1), 1) := by decide +kernel
theorem dX6_loneLetter_17 : decode cX6_loneLetter 17 = .ok (.goto 11, 3) := by decide +kernel
theorem dX6_loneLetter_20 : decode cX6_loneLetter 20 = .ok (.aload_n 0, 1) := by decide +kernel
theorem dX6_loneLetter_21 : decode cX6_loneLetter 21 = .ok (.aload_n 0, 1) := by decide +kernel
theorem dX6_loneLetter_22 : decode cX6_loneLetter 22 = .ok (.getfield 24, 3) := by decide +kernel
theorem dX6_loneLetter_25 : decode cX6_loneLetter 25 = .ok (.invokevirtual 80, 3) := by decide +kernel
theorem dX6_loneLetter_28 : decode cX6_loneLetter 28 = .ok (.ireturn, 1) := by decide +kernel
set_option maxRecDepth 20000 in
theorem ggX6_skipBlanks_X6_byteAt : GoodIn wsX6_skipBlanks wsX6_byteAt := goodIn_r _ [7, 2, 8, 9, 10, 11] (by decide +kernel) (by decide +kernel)
set_option maxRecDepth 20000 in
theorem gX6_skipBlanks_X6_byteAt : GoodIn wsX6_skipBlanks (wsV RX6 80 RX6 yX6_byteAt wsX6_byteAt) := goodIn_app (goodIn_of _ (by decide +kernel)) ggX6_skipBlanks_X6_byteAt
theorem dX6_skipBlanks_0 : decode cX6_skipBlanks 0 = .ok (.aload_n 0, 1) := by decide +kernel
theorem dX6_skipBlanks_1 : decode cX6_skipBlanks 1 = .ok (.getfield 24, 3) := by decide +kernel
theorem dX6_skipBlanks_4 : decode cX6_skipBlanks 4 = .ok (.aload_n 0, 1) := by decide +kernel
theorem dX6_skipBlanks_5 : decode cX6_skipBlanks 5 = .ok (.getfield 15, 3) := by decide +kernel
theorem dX6_skipBlanks_8 : decode cX6_skipBlanks 8 = .ok (.if_icmp .ge 29, 3) := by decide +kernel
theorem dX6_skipBlanks_11 : decode cX6_skipBlanks 11 = .ok (.aload_n 0, 1) := by decide +kernel
theorem dX6_skipBlanks_12 : decode cX6_skipBlanks 12 = .ok (.aload_n 0, 1) := by decide +kernel
theorem dX6_skipBlanks_13 : decode cX6_skipBlanks 13 = .ok (.getfield 24, 3) := by decide +kernel
theorem dX6_skipBlanks_16 : decode cX6_skipBlanks 16 = .ok (.invokevirtual 80, 3) := by decide +kernel
theorem dX6_skipBlanks_19 : decode cX6_skipBlanks 19 = .ok (.bipush 32, 2) := by decide +kernel
theorem dX6_skipBlanks_21 : decode cX6_skipBlanks 21 = .ok (.if_icmp .ne 16, 3) := by decide +kernel
theorem dX6_skipBlanks_24 : decode cX6_skipBlanks 24 = .ok (.aload_n 0, 1) := by decide +kernel
theorem dX6_skipBlanks_25 : decode cX6_skipBlanks 25 = .ok (.dup, 1) := by decide +kernel
theorem dX6_skipBlanks_26 : decode cX6_skipBlanks 26 = .ok (.getfield 24, 3) := by decide +kernel
theorem dX6_skipBlanks_29 : decode cX6_skipBlanks 29 = .ok (.iconst 1, 1) := by decide +kernel
theorem dX6_skipBlanks_30 : decode cX6_skipBlanks 30 = .ok (.iadd, 1) := by decide +kernel
theorem dX6_skipBlanks_31 : decode cX6_skipBlanks 31 = .ok (.putfield 24, 3) := by decide +kernel
theorem dX6_skipBlanks_34 : decode cX6_skipBlanks 34 = .ok (.goto (-34), 3) := by decide +kernel
theorem dX6_skipBlanks_37 : decode cX6_skipBlanks 37 = .ok (.return_, 1) := by decide +kernel
theorem dX6_byteAt_0 : decode cX6_byteAt 0 = .ok (.iload_n 1, 1) := by decide +kernel
theorem dX6_byteAt_1 : decode cX6_byteAt 1 = .ok (.ifCond .lt 26, 3) := by decide +kernel
theorem dX6_byteAt_4 : decode cX6_byteAt 4 = .ok (.iload_n 1, 1) := by decide +kernel
theorem dX6_byteAt_5 : decode cX6_byteAt 5 = .ok (.aload_n 0, 1) := by decide +kernel
theorem dX6_byteAt_6 : decode cX6_byteAt 6 = .ok (.getfield 15, 3) := by decide +kernel
theorem dX6_byteAt_9 : decode cX6_byteAt 9 = .ok (.if_icmp .ge 18, 3) := by decide +kernel
theorem dX6_byteAt_12 : decode cX6_byteAt 12 = .ok (.iload_n 1, 1) := by decide +kernel
theorem dX6_byteAt_13 : decode cX6_byteAt 13 = .ok (.bipush 120, 2) := by decide +kernel
theorem dX6_byteAt_15 : decode cX6_byteAt 15 = .ok (.if_icmp .ge 12, 3) := by decide +kernel
theorem dX6_byteAt_18 : decode cX6_byteAt 18 = .ok (.aload_n 0, 1) := by decide +kernel
theorem dX6_byteAt_19 : decode cX6_byteAt 19 = .ok (.getfield 9, 3) := by decide +kernel
theorem dX6_byteAt_22 : decode cX6_byteAt 22 = .ok (.iload_n 1, 1) := by decide +kernel
theorem dX6_byteAt_23 : decode cX6_byteAt 23 = .ok (.iaload, 1) := by decide +kernel
theorem dX6_byteAt_24 : decode cX6_byteAt 24 = .ok (.goto 4, 3) := by decide +kernel
theorem dX6_byteAt_27 : decode cX6_byteAt 27 = .ok (.iconst (-1), 1) := by decide +kernel
theorem dX6_byteAt_28 : decode cX6_byteAt 28 = .ok (.ireturn, 1) := by decide +kernel
theorem dX6_isDigit_0 : decode cX6_isDigit 0 = .ok (.iload_n 0, 1) := by decide +kernel
theorem dX6_isDigit_1 : decode cX6_isDigit 1 = .ok (.bipush 48, 2) := by decide +kernel
theorem dX6_isDigit_3 : decode cX6_isDigit 3 = .ok (.if_icmp .lt 13, 3) := by decide +kernel
theorem dX6_isDigit_6 : decode cX6_isDigit 6 = .ok (.iload_n 0, 1) := by decide +kernel
theorem dX6_isDigit_7 : decode cX6_isDigit 7 = .ok (.bipush 57, 2) := by decide +kernel
theorem dX6_isDigit_9 : decode cX6_isDigit 9 = .ok (.if_icmp .gt 7, 3) := by decide +kernel
theorem dX6_isDigit_12 : decode cX6_isDigit 12 = .ok (.iconst 1, 1) := by decide +kernel
theorem dX6_isDigit_13 : decode cX6_isDigit 13 = .ok (.goto 4, 3) := by decide +kernel
theorem dX6_isDigit_16 : decode cX6_isDigit 16 = .ok (.iconst 0, 1) := by decide +kernel
theorem dX6_isDigit_17 : decode cX6_isDigit 17 = .ok (.ireturn, 1) := by decide +kernel
theorem dX6_isLetter_0 : decode cX6_isLetter 0 = .ok (.iload_n 0, 1) := by decide +kernel
theorem dX6_isLetter_1 : decode cX6_isLetter 1 = .ok (.bipush 97, 2) := by decide +kernel
theorem dX6_isLetter_3 : decode cX6_isLetter 3 = .ok (.if_icmp .lt 13, 3) := by decide +kernel
theorem dX6_isLetter_6 : decode cX6_isLetter 6 = .ok (.iload_n 0, 1) := by decide +kernel
theorem dX6_isLetter_7 : decode cX6_isLetter 7 = .ok (.bipush 122, 2) := by decide +kernel
theorem dX6_isLetter_9 : decode cX6_isLetter 9 = .ok (.if_icmp .gt 7, 3) := by decide +kernel
theorem dX6_isLetter_12 : decode cX6_isLetter 12 = .ok (.iconst 1, 1) := by decide +kernel
theorem dX6_isLetter_13 : decode cX6_isLetter 13 = .ok (.goto 4, 3) := by decide +kernel
theorem dX6_isLetter_16 : decode cX6_isLetter 16 = .ok (.iconst 0, 1) := by decide +kernel
theorem dX6_isLetter_17 : decode cX6_isLetter 17 = .ok (.ireturn, 1) := by decide +kernel
theorem dX7_init_0 : decode cX7_init 0 = .ok (.aload_n 0, 1) := by decide +kernel
theorem dX7_init_1 : decode cX7_init 1 = .ok (.invokespecial 3, 3) := by decide +kernel
theorem dX7_init_4 : decode cX7_init 4 = .ok (.aload_n 0, 1) := by decide +kernel
theorem dX7_init_5 : decode cX7_init 5 = .ok (.iconst 4, 1) := by decide +kernel
theorem dX7_init_6 : decode cX7_init 6 = .ok (.putfield 9, 3) := by decide +kernel
theorem dX7_init_9 : decode cX7_init 9 = .ok (.aload_n 0, 1) := by decide +kernel
theorem dX7_init_10 : decode cX7_init 10 = .ok (.bipush 9, 2) := by decide +kernel
theorem dX7_init_12 : decode cX7_init 12 = .ok (.newarray .int, 2) := by decide +kernel
theorem dX7_init_14 : decode cX7_init 14 = .ok (.putfield 15, 3) := by decide +kernel
theorem dX7_init_17 : decode cX7_init 17 = .ok (.aload_n 0, 1) := by decide +kernel
theorem dX7_init_18 : decode cX7_init 18 = .ok (.bipush 9, 2) := by decide +kernel
theorem dX7_init_20 : decode cX7_init 20 = .ok (.newarray .int, 2) := by decide +kernel
theorem dX7_init_22 : decode cX7_init 22 = .ok (.putfield 19, 3) := by decide +kernel
theorem dX7_init_25 : decode cX7_init 25 = .ok (.aload_n 0, 1) := by decide +kernel
theorem dX7_init_26 : decode cX7_init 26 = .ok (.bipush 9, 2) := by decide +kernel
theorem dX7_init_28 : decode cX7_init 28 = .ok (.newarray .int, 2) := by decide +kernel
theorem dX7_init_30 : decode cX7_init 30 = .ok (.putfield 22, 3) := by decide +kernel
theorem dX7_init_33 : decode cX7_init 33 = .ok (.aload_n 0, 1) := by decide +kernel
theorem dX7_init_34 : decode cX7_init 34 = .ok (.bipush 6, 2) := by decide +kernel
theorem dX7_init_36 : decode cX7_init 36 = .ok (.newarray .int, 2) := by decide +kernel
theorem dX7_init_38 : decode cX7_init 38 = .ok (.putfield 25, 3) := by decide +kernel
theorem dX7_init_41 : decode cX7_init 41 = .ok (.aload_n 0, 1) := by decide +kernel
theorem dX7_init_42 : decode cX7_init 42 = .ok (.bipush 6, 2) := by decide +kernel
theorem dX7_init_44 : decode cX7_init 44 = .ok (.newarray .int, 2) := by decide +kernel
theorem dX7_init_46 : decode cX7_init 46 = .ok (.putfield 28, 3) := by decide +kernel
theorem dX7_init_49 : decode cX7_init 49 = .ok (.return_, 1) := by decide +kernel
theorem dX7_begin_0 : decode cX7_begin 0 = .ok (.aload_n 0, 1) := by decide +kernel
theorem dX7_begin_1 : decode cX7_begin 1 = .ok (.iconst 4, 1) := by decide +kernel
theorem dX7_begin_2 : decode cX7_begin 2 = .ok (.putfield 9, 3) := by decide +kernel
theorem dX7_begin_5 : decode cX7_begin 5 = .ok (.aload_n 0, 1) := by decide +kernel
theorem dX7_begin_6 : decode cX7_begin 6 = .ok (.iconst 0, 1) := by decide +kernel
theorem dX7_begin_7 : decode cX7_begin 7 = .ok (.putfield 31, 3) := by decide +kernel
theorem dX7_begin_10 : decode cX7_begin 10 = .ok (.aload_n 0, 1) := by decide +kernel
theorem dX7_begin_11 : decode cX7_begin 11 = .ok (.iconst 0, 1) := by decide +kernel
theorem dX7_begin_12 : decode cX7_begin 12 = .ok (.putfield 34, 3) := by decide +kernel
theorem dX7_begin_15 : decode cX7_begin 15 = .ok (.return_, 1) := by decide +kernel
theorem dX7_become_0 : decode cX7_become 0 = .ok (.aload_n 0, 1) := by decide +kernel
theorem dX7_become_1 : decode cX7_become 1 = .ok (.aload_n 1, 1) := by decide +kernel
theorem dX7_become_2 : decode cX7_become 2 = .ok (.getfield 9, 3) := by decide +kernel
theorem dX7_become_5 : decode cX7_become 5 = .ok (.putfield 9, 3) := by decide +kernel
theorem dX7_become_8 : decode cX7_become 8 = .ok (.aload_n 0, 1) := by decide +kernel
theorem dX7_become_9 : decode cX7_become 9 = .ok (.aload_n 1, 1) := by decide +kernel
theorem dX7_become_10 : decode cX7_become 10 = .ok (.getfield 31, 3) := by decide +kernel
theorem dX7_become_13 : decode cX7_become 13 = .ok (.putfield 31, 3) := by decide +kernel
theorem dX7_become_16 : decode cX7_become 16 = .ok (.aload_n 0, 1) := by decide +kernel
theorem dX7_become_17 : decode cX7_become 17 = .ok (.aload_n 1, 1) := by decide +kernel
theorem dX7_become_18 : decode cX7_become 18 = .ok (.getfield 34, 3) := by decide +kernel
theorem dX7_become_21 : decode cX7_become 21 = .ok (.putfield 34, 3) := by decide +kernel
theorem dX7_become_24 : decode cX7_become 24 = .ok (.aload_n 1, 1) := by decide +kernel
theorem dX7_become_25 : decode cX7_become 25 = .ok (.getfield 15, 3) := by decide +kernel
theorem dX7_become_28 : decode cX7_become 28 = .ok (.iconst 0, 1) := by decide +kernel
theorem dX7_become_29 : decode cX7_become 29 = .ok (.aload_n 0, 1) := by decide +kernel
theorem dX7_become_30 : decode cX7_become 30 = .ok (.getfield 15, 3) := by decide +kernel
theorem dX7_become_33 : decode cX7_become 33 = .ok (.iconst 0, 1) := by decide +kernel
theorem dX7_become_34 : decode cX7_become 34 = .ok (.bipush 9, 2) := by decide +kernel
theorem dX7_become_36 : decode cX7_become 36 = .ok (.invokestatic 37, 3) := by decide +kernel
theorem dX7_become_39 : decode cX7_become 39 = .ok (.aload_n 1, 1) := by decide +kernel
theorem dX7_become_40 : decode cX7_become 40 = .ok (.getfield 19, 3) := by decide +kernel
theorem dX7_become_43 : decode cX7_become 43 = .ok (.iconst 0, 1) := by decide +kernel
theorem dX7_become_44 : decode cX7_become 44 = .ok (.aload_n 0, 1) := by decide +kernel
theorem dX7_become_45 : decode cX7_become 45 = .ok (.getfield 19, 3) := by decide +kernel
theorem dX7_become_48 : decode cX7_become 48 = .ok (.iconst 0, 1) := by decide +kernel
theorem dX7_become_49 : decode cX7_become 49 = .ok (.bipush 9, 2) := by decide +kernel
theorem dX7_become_51 : decode cX7_become 51 = .ok (.invokestatic 37, 3) := by decide +kernel
theorem dX7_become_54 : decode cX7_become 54 = .ok (.aload_n 1, 1) := by decide +kernel
theorem dX7_become_55 : decode cX7_become 55 = .ok (.getfield 22, 3) := by decide +kernel
theorem dX7_become_58 : decode cX7_become 58 = .ok (.iconst 0, 1) := by decide +kernel
theorem dX7_become_59 : decode cX7_become 59 = .ok (.aload_n 0, 1) := by decide +kernel
theorem dX7_become_60 : decode cX7_become 60 = .ok (.getfield 22, 3) := by decide +kernel
theorem dX7_become_63 : decode cX7_become 63 = .ok (.iconst 0, 1) := by decide +kernel
theorem dX7_become_64 : decode cX7_become 64 = .ok (.bipush 9, 2) := by decide +kernel
theorem dX7_become_66 : decode cX7_become 66 = .ok (.invokestatic 37, 3) := by decide +kernel
theorem dX7_become_69 : decode cX7_become 69 = .ok (.aload_n 1, 1) := by decide +kernel
theorem dX7_become_70 : decode cX7_become 70 = .ok (.getfield 25, 3) := by decide +kernel
theorem dX7_become_73 : decode cX7_become 73 = .ok (.iconst 0, 1) := by decide +kernel
theorem dX7_become_74 : decode cX7_become 74 = .ok (.aload_n 0, 1) := by decide +kernel
theorem dX7_become_75 : decode cX7_become 75 = .ok (.getfield 25, 3) := by decide +kernel
theorem dX7_become_78 : decode cX7_become 78 = .ok (.iconst 0, 1) := by decide +kernel
theorem dX7_become_79 : decode cX7_become 79 = .ok (.bipush 6, 2) := by decide +kernel
theorem dX7_become_81 : decode cX7_become 81 = .ok (.invokestatic 37, 3) := by decide +kernel
theorem dX7_become_84 : decode cX7_become 84 = .ok (.aload_n 1, 1) := by decide +kernel
theorem dX7_become_85 : decode cX7_become 85 = .ok (.getfield 28, 3) := by decide +kernel
theorem dX7_become_88 : decode cX7_become 88 = .ok (.iconst 0, 1) := by decide +kernel
theorem dX7_become_89 : decode cX7_become 89 = .ok (.aload_n 0, 1) := by decide +kernel
theorem dX7_become_90 : decode cX7_become 90 = .ok (.getfield 28, 3) := by decide +kernel
theorem dX7_become_93 : decode cX7_become 93 = .ok (.iconst 0, 1) := by decide +kernel
theorem dX7_become_94 : decode cX7_become 94 = .ok (.bipush 6, 2) := by decide +kernel
theorem dX7_become_96 : decode cX7_become 96 = .ok (.invokestatic 37, 3) := by decide +kernel
theorem dX7_become_99 : decode cX7_become 99 = .ok (.return_, 1) := by decide +kernel
theorem dX7_endsOf_0 : decode cX7_endsOf 0 = .ok (.iconst 1, 1) := by decide +kernel
theorem dX7_endsOf_1 : decode cX7_endsOf 1 = .ok (.aload_n 0, 1) := by decide +kernel
theorem dX7_endsOf_2 : decode cX7_endsOf 2 = .ok (.getfield 15, 3) := by decide +kernel
theorem dX7_endsOf_5 : decode cX7_endsOf 5 = .ok (.iload_n 1, 1) := by decide +kernel
theorem dX7_endsOf_6 : decode cX7_endsOf 6 = .ok (.iaload, 1) := by decide +kernel
theorem dX7_endsOf_7 : decode cX7_endsOf 7 = .ok (.ishl, 1) := by decide +kernel
theorem dX7_endsOf_8 : decode cX7_endsOf 8 = .ok (.iconst 1, 1) := by decide +kernel
theorem dX7_endsOf_9 : decode cX7_endsOf 9 = .ok (.aload_n 0, 1) := by decide +kernel
theorem dX7_endsOf_10 : decode cX7_endsOf 10 = .ok (.getfield 19, 3) := by decide +kernel
theorem dX7_endsOf_13 : decode cX7_endsOf 13 = .ok (.iload_n 1, 1) := by decide +kernel
theorem dX7_endsOf_14 : decode cX7_endsOf 14 = .ok (.iaload, 1) := by decide +kernel
theorem dX7_endsOf_15 : decode cX7_endsOf 15 = .ok (.ishl, 1) := by decide +kernel
theorem dX7_endsOf_16 : decode cX7_endsOf 16 = .ok (.ior, 1) := by decide +kernel
theorem dX7_endsOf_17 : decode cX7_endsOf 17 = .ok (.ireturn, 1) := by decide +kernel
set_option maxRecDepth 20000 in
theorem ggX8_init_X4_init : GoodIn wsX8_init wsX4_init := goodIn_r _ [12, 8, 13, 14, 15, 16, 17, 18, 2, 3, 19, 20, 21, 22, 23, 24, 25, 26, 27, 28, 29, 30, 31, 32, 33, 36, 37, 38, 39, 40, 41, 42, 43] (by decide +kernel) (by decide +kernel)
set_option maxRecDepth 20000 in
theorem gX8_init_X4_init : GoodIn wsX8_init (wsX4_init) := ggX8_init_X4_init
theorem dX8_init_0 : decode cX8_init 0 = .ok (.aload_n 0, 1) := by decide +kernel
theorem dX8_init_1 : decode cX8_init 1 = .ok (.invokespecial 5, 3) := by decide +kernel
theorem dX8_init_4 : decode cX8_init 4 = .ok (.aload_n 0, 1) := by decide +kernel
theorem dX8_init_5 : decode cX8_init 5 = .ok (.new 11, 3) := by decide +kernel
theorem dX8_init_8 : decode cX8_init 8 = .ok (.dup, 1) := by decide +kernel
theorem dX8_init_9 : decode cX8_init 9 = .ok (.invokespecial 13, 3) := by decide +kernel
theorem dX8_init_12 : decode cX8_init 12 = .ok (.putfield 14, 3) := by decide +kernel
theorem dX8_init_15 : decode cX8_init 15 = .ok (.aload_n 0, 1) := by decide +kernel
theorem dX8_init_16 : decode cX8_init 16 = .ok (.bipush 8, 2) := by decide +kernel
theorem dX8_init_18 : decode cX8_init 18 = .ok (.newarray .int, 2) := by decide +kernel
theorem dX8_init_20 : decode cX8_init 20 = .ok (.putfield 18, 3) := by decide +kernel
theorem dX8_init_23 : decode cX8_init 23 = .ok (.return_, 1) := by decide +kernel
theorem dX8_widthIn_0 : decode cX8_widthIn 0 = .ok (.iload_n 0, 1) := by decide +kernel
theorem dX8_widthIn_1 : decode cX8_widthIn 1 = .ok (.sipush 8192, 3) := by decide +kernel
theorem dX8_widthIn_4 : decode cX8_widthIn 4 = .ok (.idiv, 1) := by decide +kernel
theorem dX8_widthIn_5 : decode cX8_widthIn 5 = .ok (.ireturn, 1) := by decide +kernel
theorem dX8_streetsIn_0 : decode cX8_streetsIn 0 = .ok (.iload_n 0, 1) := by decide +kernel
theorem dX8_streetsIn_1 : decode cX8_streetsIn 1 = .ok (.sipush 512, 3) := by decide +kernel
theorem dX8_streetsIn_4 : decode cX8_streetsIn 4 = .ok (.irem, 1) := by decide +kernel
theorem dX8_streetsIn_5 : decode cX8_streetsIn 5 = .ok (.ireturn, 1) := by decide +kernel
theorem dX8_tenTo_0 : decode cX8_tenTo 0 = .ok (.iconst 1, 1) := by decide +kernel
theorem dX8_tenTo_1 : decode cX8_tenTo 1 = .ok (.istore_n 1, 1) := by decide +kernel
theorem dX8_tenTo_2 : decode cX8_tenTo 2 = .ok (.iconst 0, 1) := by decide +kernel
theorem dX8_tenTo_3 : decode cX8_tenTo 3 = .ok (.istore_n 2, 1) := by decide +kernel
theorem dX8_tenTo_4 : decode cX8_tenTo 4 = .ok (.iload_n 2, 1) := by decide +kernel
theorem dX8_tenTo_5 : decode cX8_tenTo 5 = .ok (.iload_n 0, 1) := by decide +kernel
theorem dX8_tenTo_6 : decode cX8_tenTo 6 = .ok (.if_icmp .ge 20, 3) := by decide +kernel
theorem dX8_tenTo_9 : decode cX8_tenTo 9 = .ok (.iload_n 2, 1) := by decide +kernel
theorem dX8_tenTo_10 : decode cX8_tenTo 10 = .ok (.bipush 9, 2) := by decide +kernel
theorem dX8_tenTo_12 : decode cX8_tenTo 12 = .ok (.if_icmp .ge 14, 3) := by decide +kernel
theorem dX8_tenTo_15 : decode cX8_tenTo 15 = .ok (.iload_n 1, 1) := by decide +kernel
theorem dX8_tenTo_16 : decode cX8_tenTo 16 = .ok (.bipush 10, 2) := by decide +kernel
theorem dX8_tenTo_18 : decode cX8_tenTo 18 = .ok (.imul, 1) := by decide +kernel
theorem dX8_tenTo_19 : decode cX8_tenTo 19 = .ok (.istore_n 1, 1) := by decide +kernel
theorem dX8_tenTo_20 : decode cX8_tenTo 20 = .ok (.iinc 2 1, 3) := by decide +kernel
theorem dX8_tenTo_23 : decode cX8_tenTo 23 = .ok (.goto (-19), 3) := by decide +kernel
theorem dX8_tenTo_26 : decode cX8_tenTo 26 = .ok (.iload_n 1, 1) := by decide +kernel
theorem dX8_tenTo_27 : decode cX8_tenTo 27 = .ok (.ireturn, 1) := by decide +kernel
set_option maxRecDepth 20000 in
theorem ggX8_widestWay_X8_fewestStreets : GoodIn wsX8_widestWay wsX8_fewestStreets := goodIn_r _ [5, 6, 7, 8, 9, 10, 11, 4, 12, 13, 14, 15, 16, 17, 18, 19, 20, 21, 22, 23, 24, 25, 26, 27, 28, 29, 30, 31, 32, 33, 34, 35, 36, 37, 38, 39, 40, 41, 42, 43, 44, 45, 46] (by decide +kernel) (by decide +kernel)
set_option maxRecDepth 20000 in
theorem gX8_widestWay_X8_fewestStreets : GoodIn wsX8_widestWay (wsV RX8 22 RX8 yX8_fewestStreets wsX8_fewestStreets) := goodIn_app (goodIn_of _ (by decide +kernel)) ggX8_widestWay_X8_fewestStreets
theorem dX8_widestWay_0 : decode cX8_widestWay 0 = .ok (.bipush 10, 2) := by decide +kernel
theorem dX8_widestWay_2 : decode cX8_widestWay 2 = .ok (.istore_n 3, 1) := by decide +kernel
theorem dX8_widestWay_3 : decode cX8_widestWay 3 = .ok (.iload_n 3, 1) := by decide +kernel
theorem dX8_widestWay_4 : decode cX8_widestWay 4 = .ok (.iconst 1, 1) := by decide +kernel
theorem dX8_widestWay_5 : decode cX8_widestWay 5 = .ok (.if_icmp .lt 23, 3) := by decide +kernel
theorem dX8_widestWay_8 : decode cX8_widestWay 8 = .ok (.aload_n 0, 1) := by decide +kernel
theorem dX8_widestWay_9 : decode cX8_widestWay 9 = .ok (.iload_n 1, 1) := by decide +kernel
theorem dX8_widestWay_10 : decode cX8_widestWay 10 = .ok (.iload_n 2, 1) := by decide +kernel
theorem dX8_widestWay_11 : decode cX8_widestWay 11 = .ok (.iload_n 3, 1) := by decide +kernel
theorem dX8_widestWay_12 : decode cX8_widestWay 12 = .ok (.invokevirtual 22, 3) := by decide +kernel
theorem dX8_widestWay_15 : decode cX8_widestWay 15 = .ok (.bipush (-9), 2) := by decide +kernel
theorem dX8_widestWay_17 : decode cX8_widestWay 17 = .ok (.if_icmp .eq 5, 3) := by decide +kernel
theorem dX8_widestWay_20 : decode cX8_widestWay 20 = .ok (.iload_n 3, 1) := by decide +kernel
theorem dX8_widestWay_21 : decode cX8_widestWay 21 = .ok (.ireturn, 1) := by decide +kernel
theorem dX8_widestWay_22 : decode cX8_widestWay 22 = .ok (.iinc 3 (-1), 3) := by decide +kernel
theorem dX8_widestWay_25 : decode cX8_widestWay 25 = .ok (.goto (-22), 3) := by decide +kernel
theorem dX8_widestWay_28 : decode cX8_widestWay 28 = .ok (.bipush (-9), 2) := by decide +kernel
theorem dX8_widestWay_30 : decode cX8_widestWay 30 = .ok (.ireturn, 1) := by decide +kernel
set_option maxRecDepth 20000 in
theorem ggX8_fewestStreets_X8_oneStreetOn : GoodIn wsX8_fewestStreets wsX8_oneStreetOn := goodIn_r _ [8, 1, 9, 10, 11, 12, 13, 14, 15, 16, 17, 18, 19, 24, 25, 26, 27, 28, 29, 30, 31, 32, 33, 34, 35, 36, 37, 38, 39, 40, 41, 42] (by decide +kernel) (by decide +kernel)
set_option maxRecDepth 20000 in
theorem gX8_fewestStreets_X8_oneStreetOn : GoodIn wsX8_fewestStreets (wsV RX8 30 RX8 yX8_oneStreetOn wsX8_oneStreetOn) := goodIn_app (goodIn_of _ (by decide +kernel)) ggX8_fewestStreets_X8_oneStreetOn
set_option maxRecDepth 20000 in
theorem ggX8_fewestStreets_X5_has : GoodIn wsX8_fewestStreets wsX5_has := goodIn_r _ [23] (by decide +kernel) (by decide +kernel)
set_option maxRecDepth 20000 in
theorem gX8_fewestStreets_X5_has : GoodIn wsX8_fewestStreets (va_wsS RX8 34 yX5_has wsX5_has) := goodIn_app (goodIn_of _ (by decide +kernel)) ggX8_fewestStreets_X5_has
theorem dX8_fewestStreets_0 : decode cX8_fewestStreets 0 = .ok (.iconst 1, 1) := by decide +kernel
theorem dX8_fewestStreets_1 : decode cX8_fewestStreets 1 = .ok (.iload_n 1, 1) := by decide +kernel
theorem dX8_fewestStreets_2 : decode cX8_fewestStreets 2 = .ok (.ishl, 1) := by decide +kernel
theorem dX8_fewestStreets_3 : decode cX8_fewestStreets 3 = .ok (.istore 4, 2) := by decide +kernel
theorem dX8_fewestStreets_5 : decode cX8_fewestStreets 5 = .ok (.iconst 1, 1) := by decide +kernel
theorem dX8_fewestStreets_6 : decode cX8_fewestStreets 6 = .ok (.istore 5, 2) := by decide +kernel
theorem dX8_fewestStreets_8 : decode cX8_fewestStreets 8 = .ok (.iload 5, 2) := by decide +kernel
theorem dX8_fewestStreets_10 : decode cX8_fewestStreets 10 = .ok (.aload_n 0, 1) := by decide +kernel
theorem dX8_fewestStreets_11 : decode cX8_fewestStreets 11 = .ok (.getfield 14, 3) := by decide +kernel
theorem dX8_fewestStreets_14 : decode cX8_fewestStreets 14 = .ok (.getfield 26, 3) := by decide +kernel
theorem dX8_fewestStreets_17 : decode cX8_fewestStreets 17 = .ok (.if_icmp .ge 30, 3) := by decide +kernel
theorem dX8_fewestStreets_20 : decode cX8_fewestStreets 20 = .ok (.aload_n 0, 1) := by decide +kernel
theorem dX8_fewestStreets_21 : decode cX8_fewestStreets 21 = .ok (.iload 4, 2) := by decide +kernel
theorem dX8_fewestStreets_23 : decode cX8_fewestStreets 23 = .ok (.iload_n 3, 1) := by decide +kernel
theorem dX8_fewestStreets_24 : decode cX8_fewestStreets 24 = .ok (.invokevirtual 30, 3) := by decide +kernel
theorem dX8_fewestStreets_27 : decode cX8_fewestStreets 27 = .ok (.istore 4, 2) := by decide +kernel
theorem dX8_fewestStreets_29 : decode cX8_fewestStreets 29 = .ok (.iload 4, 2) := by decide +kernel
theorem dX8_fewestStreets_31 : decode cX8_fewestStreets 31 = .ok (.iload_n 2, 1) := by decide +kernel
theorem dX8_fewestStreets_32 : decode cX8_fewestStreets 32 = .ok (.invokestatic 34, 3) := by decide +kernel
theorem dX8_fewestStreets_35 : decode cX8_fewestStreets 35 = .ok (.ifCond .eq 6, 3) := by decide +kernel
theorem dX8_fewestStreets_38 : decode cX8_fewestStreets 38 = .ok (.iload 5, 2) := by decide +kernel
theorem dX8_fewestStreets_40 : decode cX8_fewestStreets 40 = .ok (.ireturn, 1) := by decide +kernel
theorem dX8_fewestStreets_41 : decode cX8_fewestStreets 41 = .ok (.iinc 5 1, 3) := by decide +kernel
theorem dX8_fewestStreets_44 : decode cX8_fewestStreets 44 = .ok (.goto (-36), 3) := by decide +kernel
theorem dX8_fewestStreets_47 : decode cX8_fewestStreets 47 = .ok (.bipush (-9), 2) := by decide +kernel
theorem dX8_fewestStreets_49 : decode cX8_fewestStreets 49 = .ok (.ireturn, 1) := by decide +kernel
set_option maxRecDepth 20000 in
theorem ggX8_oneStreetOn_X7_endsOf : GoodIn wsX8_oneStreetOn wsX7_endsOf := goodIn_r _ [10, 11, 12, 15, 16, 17, 18, 19, 20, 21, 22, 23, 24, 25, 26, 27, 28, 29, 30, 31] (by decide +kernel) (by decide +kernel)
set_option maxRecDepth 20000 in
theorem gX8_oneStreetOn_X7_endsOf_u46X4 : GoodIn wsX8_oneStreetOn (va_wsU RX8 46 RX4 "KindStreets$Town" ⟨"KindStreets$Plan", "endsOf", "(I)I"⟩ yX7_endsOf wsX7_endsOf) := goodIn_app (goodIn_of _ (by decide +kernel)) ggX8_oneStreetOn_X7_endsOf
theorem dX8_oneStreetOn_0 : decode cX8_oneStreetOn 0 = .ok (.iload_n 1, 1) := by decide +kernel
theorem dX8_oneStreetOn_1 : decode cX8_oneStreetOn 1 = .ok (.istore_n 3, 1) := by decide +kernel
theorem dX8_oneStreetOn_2 : decode cX8_oneStreetOn 2 = .ok (.iconst 0, 1) := by decide +kernel
theorem dX8_oneStreetOn_3 : decode cX8_oneStreetOn 3 = .ok (.istore 4, 2) := by decide +kernel
theorem dX8_oneStreetOn_5 : decode cX8_oneStreetOn 5 = .ok (.iload 4, 2) := by decide +kernel
theorem dX8_oneStreetOn_7 : decode cX8_oneStreetOn 7 = .ok (.aload_n 0, 1) := by decide +kernel
theorem dX8_oneStreetOn_8 : decode cX8_oneStreetOn 8 = .ok (.getfield 14, 3) := by decide +kernel
theorem dX8_oneStreetOn_11 : decode cX8_oneStreetOn 11 = .ok (.getfield 40, 3) := by decide +kernel
theorem dX8_oneStreetOn_14 : decode cX8_oneStreetOn 14 = .ok (.if_icmp .ge 49, 3) := by decide +kernel
theorem dX8_oneStreetOn_17 : decode cX8_oneStreetOn 17 = .ok (.aload_n 0, 1) := by decide +kernel
theorem dX8_oneStreetOn_18 : decode cX8_oneStreetOn 18 = .ok (.getfield 14, 3) := by decide +kernel
theorem dX8_oneStreetOn_21 : decode cX8_oneStreetOn 21 = .ok (.getfield 43, 3) := by decide +kernel
theorem dX8_oneStreetOn_24 : decode cX8_oneStreetOn 24 = .ok (.iload 4, 2) := by decide +kernel
theorem dX8_oneStreetOn_26 : decode cX8_oneStreetOn 26 = .ok (.iaload, 1) := by decide +kernel
theorem dX8_oneStreetOn_27 : decode cX8_oneStreetOn 27 = .ok (.iload_n 2, 1) := by decide +kernel
theorem dX8_oneStreetOn_28 : decode cX8_oneStreetOn 28 = .ok (.if_icmp .lt 29, 3) := by decide +kernel
theorem dX8_oneStreetOn_31 : decode cX8_oneStreetOn 31 = .ok (.iload_n 1, 1) := by decide +kernel
theorem dX8_oneStreetOn_32 : decode cX8_oneStreetOn 32 = .ok (.aload_n 0, 1) := by decide +kernel
theorem dX8_oneStreetOn_33 : decode cX8_oneStreetOn 33 = .ok (.getfield 14, 3) := by decide +kernel
theorem dX8_oneStreetOn_36 : decode cX8_oneStreetOn 36 = .ok (.iload 4, 2) := by decide +kernel
theorem dX8_oneStreetOn_38 : decode cX8_oneStreetOn 38 = .ok (.invokevirtual 46, 3) := by decide +kernel
theorem dX8_oneStreetOn_41 : decode cX8_oneStreetOn 41 = .ok (.iand, 1) := by decide +kernel
theorem dX8_oneStreetOn_42 : decode cX8_oneStreetOn 42 = .ok (.ifCond .eq 15, 3) := by decide +kernel
theorem dX8_oneStreetOn_45 : decode cX8_oneStreetOn 45 = .ok (.iload_n 3, 1) := by decide +kernel
theorem dX8_oneStreetOn_46 : decode cX8_oneStreetOn 46 = .ok (.aload_n 0, 1) := by decide +kernel
theorem dX8_oneStreetOn_47 : decode cX8_oneStreetOn 47 = .ok (.getfield 14, 3) := by decide +kernel
theorem dX8_oneStreetOn_50 : decode cX8_oneStreetOn 50 = .ok (.iload 4, 2) := by decide +kernel
theorem dX8_oneStreetOn_52 : decode cX8_oneStreetOn 52 = .ok (.invokevirtual 46, 3) := by decide +kernel
theorem dX8_oneStreetOn_55 : decode cX8_oneStreetOn 55 = .ok (.ior, 1) := by decide +kernel
theorem dX8_oneStreetOn_56 : decode cX8_oneStreetOn 56 = .ok (.istore_n 3, 1) := by decide +kernel
theorem dX8_oneStreetOn_57 : decode cX8_oneStreetOn 57 = .ok (.iinc 4 1, 3) := by decide +kernel
theorem dX8_oneStreetOn_60 : decode cX8_oneStreetOn 60 = .ok (.goto (-55), 3) := by decide +kernel
theorem dX8_oneStreetOn_63 : decode cX8_oneStreetOn 63 = .ok (.iload_n 3, 1) := by decide +kernel
theorem dX8_oneStreetOn_64 : decode cX8_oneStreetOn 64 = .ok (.ireturn, 1) := by decide +kernel
set_option maxRecDepth 20000 in
theorem ggX8_leastCut_X5_allOf : GoodIn wsX8_leastCut wsX5_allOf := goodIn_r _ [12] (by decide +kernel) (by decide +kernel)
set_option maxRecDepth 20000 in
theorem gX8_leastCut_X5_allOf : GoodIn wsX8_leastCut (va_wsS RX8 51 yX5_allOf wsX5_allOf) := goodIn_app (goodIn_of _ (by decide +kernel)) ggX8_leastCut_X5_allOf
set_option maxRecDepth 20000 in
theorem ggX8_leastCut_X5_has : GoodIn wsX8_leastCut wsX5_has := goodIn_r _ [15] (by decide +kernel) (by decide +kernel)
set_option maxRecDepth 20000 in
theorem gX8_leastCut_X5_has : GoodIn wsX8_leastCut (va_wsS RX8 34 yX5_has wsX5_has) := goodIn_app (goodIn_of _ (by decide +kernel)) ggX8_leastCut_X5_has
set_option maxRecDepth 20000 in
theorem ggX8_leastCut_X8_cutAround : GoodIn wsX8_leastCut wsX8_cutAround := goodIn_r _ [20, 2, 21, 22, 23, 24, 25, 26, 27, 28, 29, 30, 31, 32, 33, 14, 11, 15, 34, 35, 36, 37, 38, 39, 40, 41, 42, 43, 44, 45, 46, 47, 48, 49, 50, 51, 52] (by decide +kernel) (by decide +kernel)
set_option maxRecDepth 20000 in
theorem gX8_leastCut_X8_cutAround : GoodIn wsX8_leastCut (wsV RX8 54 RX8 yX8_cutAround wsX8_cutAround) := goodIn_app (goodIn_of _ (by decide +kernel)) ggX8_leastCut_X8_cutAround
theorem dX8_leastCut_0 : decode cX8_leastCut 0 = .ok (.ldc 50, 2) := by decide +kernel
theorem dX8_leastCut_2 : decode cX8_leastCut 2 = .ok (.istore_n 3, 1) := by decide +kernel
theorem dX8_leastCut_3 : decode cX8_leastCut 3 = .ok (.iconst 0, 1) := by decide +kernel
theorem dX8_leastCut_4 : decode cX8_leastCut 4 = .ok (.istore 4, 2) := by decide +kernel
theorem dX8_leastCut_6 : decode cX8_leastCut 6 = .ok (.iload 4, 2) := by decide +kernel
theorem dX8_leastCut_8 : decode cX8_leastCut 8 = .ok (.aload_n 0, 1) := by decide +kernel
theorem dX8_leastCut_9 : decode cX8_leastCut 9 = .ok (.getfield 14, 3) := by decide +kernel
theorem dX8_leastCut_12 : decode cX8_leastCut 12 = .ok (.getfield 26, 3) := by decide +kernel
theorem dX8_leastCut_15 : decode cX8_leastCut 15 = .ok (.invokestatic 51, 3) := by decide +kernel
theorem dX8_leastCut_18 : decode cX8_leastCut 18 = .ok (.if_icmp .gt 38, 3) := by decide +kernel
theorem dX8_leastCut_21 : decode cX8_leastCut 21 = .ok (.iload 4, 2) := by decide +kernel
theorem dX8_leastCut_23 : decode cX8_leastCut 23 = .ok (.iload_n 1, 1) := by decide +kernel
theorem dX8_leastCut_24 : decode cX8_leastCut 24 = .ok (.invokestatic 34, 3) := by decide +kernel
theorem dX8_leastCut_27 : decode cX8_leastCut 27 = .ok (.ifCond .eq 23, 3) := by decide +kernel
theorem dX8_leastCut_30 : decode cX8_leastCut 30 = .ok (.iload 4, 2) := by decide +kernel
theorem dX8_leastCut_32 : decode cX8_leastCut 32 = .ok (.iload_n 2, 1) := by decide +kernel
theorem dX8_leastCut_33 : decode cX8_leastCut 33 = .ok (.invokestatic 34, 3) := by decide +kernel
theorem dX8_leastCut_36 : decode cX8_leastCut 36 = .ok (.ifCond .ne 14, 3) := by decide +kernel
theorem dX8_leastCut_39 : decode cX8_leastCut 39 = .ok (.iload_n 3, 1) := by decide +kernel
theorem dX8_leastCut_40 : decode cX8_leastCut 40 = .ok (.aload_n 0, 1) := by decide +kernel
theorem dX8_leastCut_41 : decode cX8_leastCut 41 = .ok (.iload 4, 2) := by decide +kernel
theorem dX8_leastCut_43 : decode cX8_leastCut 43 = .ok (.invokevirtual 54, 3) := by decide +kernel
theorem dX8_leastCut_46 : decode cX8_leastCut 46 = .ok (.invokestatic 57, 3) := by decide +kernel
theorem dX8_leastCut_49 : decode cX8_leastCut 49 = .ok (.istore_n 3, 1) := by decide +kernel
theorem dX8_leastCut_50 : decode cX8_leastCut 50 = .ok (.iinc 4 1, 3) := by decide +kernel
theorem dX8_leastCut_53 : decode cX8_leastCut 53 = .ok (.goto (-47), 3) := by decide +kernel
theorem dX8_leastCut_56 : decode cX8_leastCut 56 = .ok (.iload_n 3, 1) := by decide +kernel
theorem dX8_leastCut_57 : decode cX8_leastCut 57 = .ok (.ireturn, 1) := by decide +kernel
set_option maxRecDepth 20000 in
theorem ggX8_cutAround_X4_leadsOut : GoodIn wsX8_cutAround wsX4_leadsOut := goodIn_r _ [9, 10, 11, 12, 13, 14, 15, 16, 17, 20, 21, 22, 23, 24, 25, 26, 27, 28, 29, 30, 31, 32, 33, 34, 35, 36] (by decide +kernel) (by decide +kernel)
set_option maxRecDepth 20000 in
theorem gX8_cutAround_X4_leadsOut : GoodIn wsX8_cutAround (wsV RX8 62 RX4 yX4_leadsOut wsX4_leadsOut) := goodIn_app (goodIn_of _ (by decide +kernel)) ggX8_cutAround_X4_leadsOut
theorem dX8_cutAround_0 : decode cX8_cutAround 0 = .ok (.iconst 0, 1) := by decide +kernel
theorem dX8_cutAround_1 : decode cX8_cutAround 1 = .ok (.istore_n 2, 1) := by decide +kernel
theorem dX8_cutAround_2 : decode cX8_cutAround 2 = .ok (.iconst 0, 1) := by decide +kernel
theorem dX8_cutAround_3 : decode cX8_cutAround 3 = .ok (.istore_n 3, 1) := by decide +kernel
theorem dX8_cutAround_4 : decode cX8_cutAround 4 = .ok (.iload_n 3, 1) := by decide +kernel
theorem dX8_cutAround_5 : decode cX8_cutAround 5 = .ok (.aload_n 0, 1) := by decide +kernel
theorem dX8_cutAround_6 : decode cX8_cutAround 6 = .ok (.getfield 14, 3) := by decide +kernel
theorem dX8_cutAround_9 : decode cX8_cutAround 9 = .ok (.getfield 40, 3) := by decide +kernel
theorem dX8_cutAround_12 : decode cX8_cutAround 12 = .ok (.if_icmp .ge 45, 3) := by decide +kernel
theorem dX8_cutAround_15 : decode cX8_cutAround 15 = .ok (.aload_n 0, 1) := by decide +kernel
theorem dX8_cutAround_16 : decode cX8_cutAround 16 = .ok (.getfield 14, 3) := by decide +kernel
theorem dX8_cutAround_19 : decode cX8_cutAround 19 = .ok (.iload_n 3, 1) := by decide +kernel
theorem dX8_cutAround_20 : decode cX8_cutAround 20 = .ok (.iload_n 1, 1) := by decide +kernel
theorem dX8_cutAround_21 : decode cX8_cutAround 21 = .ok (.invokevirtual 62, 3) := by decide +kernel
theorem dX8_cutAround_24 : decode cX8_cutAround 24 = .ok (.ifCond .eq 27, 3) := by decide +kernel
theorem dX8_cutAround_27 : decode cX8_cutAround 27 = .ok (.iload_n 2, 1) := by decide +kernel
theorem dX8_cutAround_28 : decode cX8_cutAround 28 = .ok (.aload_n 0, 1) := by decide +kernel
theorem dX8_cutAround_29 : decode cX8_cutAround 29 = .ok (.getfield 14, 3) := by decide +kernel
theorem dX8_cutAround_32 : decode cX8_cutAround 32 = .ok (.getfield 43, 3) := by decide +kernel
theorem dX8_cutAround_35 : decode cX8_cutAround 35 = .ok (.iload_n 3, 1) := by decide +kernel
theorem dX8_cutAround_36 : decode cX8_cutAround 36 = .ok (.iaload, 1) := by decide +kernel
theorem dX8_cutAround_37 : decode cX8_cutAround 37 = .ok (.sipush 8192, 3) := by decide +kernel
theorem dX8_cutAround_40 : decode cX8_cutAround 40 = .ok (.imul, 1) := by decide +kernel
theorem dX8_cutAround_41 : decode cX8_cutAround 41 = .ok (.sipush 512, 3) := by decide +kernel
theorem dX8_cutAround_44 : decode cX8_cutAround 44 = .ok (.iadd, 1) := by decide +kernel
theorem dX8_cutAround_45 : decode cX8_cutAround 45 = .ok (.iconst 1, 1) := by decide +kernel
theorem dX8_cutAround_46 : decode cX8_cutAround 46 = .ok (.iload_n 3, 1) := by decide +kernel
theorem dX8_cutAround_47 : decode cX8_cutAround 47 = .ok (.ishl, 1) := by decide +kernel
theorem dX8_cutAround_48 : decode cX8_cutAround 48 = .ok (.iadd, 1) := by decide +kernel
theorem dX8_cutAround_49 : decode cX8_cutAround 49 = .ok (.iadd, 1) := by decide +kernel
theorem dX8_cutAround_50 : decode cX8_cutAround 50 = .ok (.istore_n 2, 1) := by decide +kernel
theorem dX8_cutAround_51 : decode cX8_cutAround 51 = .ok (.iinc 3 1, 3) := by decide +kernel
theorem dX8_cutAround_54 : decode cX8_cutAround 54 = .ok (.goto (-50), 3) := by decide +kernel
theorem dX8_cutAround_57 : decode cX8_cutAround 57 = .ok (.iload_n 2, 1) := by decide +kernel
theorem dX8_cutAround_58 : decode cX8_cutAround 58 = .ok (.ireturn, 1) := by decide +kernel
set_option maxRecDepth 20000 in
theorem ggX8_leastPrice_J7_fill_53178 : GoodIn wsX8_leastPrice wsJ7_fill_53178 := goodIn_r _ [12] (by decide +kernel) (by decide +kernel)
set_option maxRecDepth 20000 in
theorem gX8_leastPrice_J7_fill_53178 : GoodIn wsX8_leastPrice (va_wsS RX8 65 yJ7_fill_53178 wsJ7_fill_53178) := goodIn_app (goodIn_of _ (by decide +kernel)) ggX8_leastPrice_J7_fill_53178
set_option maxRecDepth 20000 in
theorem ggX8_leastPrice_X8_goBothWays : GoodIn wsX8_leastPrice wsX8_goBothWays := goodIn_r _ [17, 3, 18, 19, 20, 21, 1, 22, 23, 24, 25, 26, 27, 28, 29, 30, 31, 32, 33, 34, 35, 36, 37, 38, 39, 40, 41, 42, 43, 44] (by decide +kernel) (by decide +kernel)
set_option maxRecDepth 20000 in
theorem gX8_leastPrice_X8_goBothWays : GoodIn wsX8_leastPrice (wsV RX8 71 RX8 yX8_goBothWays wsX8_goBothWays) := goodIn_app (goodIn_of _ (by decide +kernel)) ggX8_leastPrice_X8_goBothWays
theorem dX8_leastPrice_0 : decode cX8_leastPrice 0 = .ok (.aload_n 0, 1) := by decide +kernel
theorem dX8_leastPrice_1 : decode cX8_leastPrice 1 = .ok (.getfield 18, 3) := by decide +kernel
theorem dX8_leastPrice_4 : decode cX8_leastPrice 4 = .ok (.ldc 50, 2) := by decide +kernel
theorem dX8_leastPrice_6 : decode cX8_leastPrice 6 = .ok (.invokestatic 65, 3) := by decide +kernel
theorem dX8_leastPrice_9 : decode cX8_leastPrice 9 = .ok (.aload_n 0, 1) := by decide +kernel
theorem dX8_leastPrice_10 : decode cX8_leastPrice 10 = .ok (.getfield 18, 3) := by decide +kernel
theorem dX8_leastPrice_13 : decode cX8_leastPrice 13 = .ok (.iload_n 1, 1) := by decide +kernel
theorem dX8_leastPrice_14 : decode cX8_leastPrice 14 = .ok (.iconst 0, 1) := by decide +kernel
theorem dX8_leastPrice_15 : decode cX8_leastPrice 15 = .ok (.iastore, 1) := by decide +kernel
theorem dX8_leastPrice_16 : decode cX8_leastPrice 16 = .ok (.iconst 1, 1) := by decide +kernel
theorem dX8_leastPrice_17 : decode cX8_leastPrice 17 = .ok (.istore 4, 2) := by decide +kernel
theorem dX8_leastPrice_19 : decode cX8_leastPrice 19 = .ok (.iload 4, 2) := by decide +kernel
theorem dX8_leastPrice_21 : decode cX8_leastPrice 21 = .ok (.aload_n 0, 1) := by decide +kernel
theorem dX8_leastPrice_22 : decode cX8_leastPrice 22 = .ok (.getfield 14, 3) := by decide +kernel
theorem dX8_leastPrice_25 : decode cX8_leastPrice 25 = .ok (.getfield 26, 3) := by decide +kernel
theorem dX8_leastPrice_28 : decode cX8_leastPrice 28 = .ok (.if_icmp .ge 62, 3) := by decide +kernel
theorem dX8_leastPrice_31 : decode cX8_leastPrice 31 = .ok (.iconst 0, 1) := by decide +kernel
theorem dX8_leastPrice_32 : decode cX8_leastPrice 32 = .ok (.istore 5, 2) := by decide +kernel
theorem dX8_leastPrice_34 : decode cX8_leastPrice 34 = .ok (.iload 5, 2) := by decide +kernel
theorem dX8_leastPrice_36 : decode cX8_leastPrice 36 = .ok (.aload_n 0, 1) := by decide +kernel
theorem dX8_leastPrice_37 : decode cX8_leastPrice 37 = .ok (.getfield 14, 3) := by decide +kernel
theorem dX8_leastPrice_40 : decode cX8_leastPrice 40 = .ok (.getfield 40, 3) := by decide +kernel
theorem dX8_leastPrice_43 : decode cX8_leastPrice 43 = .ok (.if_icmp .ge 41, 3) := by decide +kernel
theorem dX8_leastPrice_46 : decode cX8_leastPrice 46 = .ok (.aload_n 0, 1) := by decide +kernel
theorem dX8_leastPrice_47 : decode cX8_leastPrice 47 = .ok (.iload 5, 2) := by decide +kernel
theorem dX8_leastPrice_49 : decode cX8_leastPrice 49 = .ok (.aload_n 0, 1) := by decide +kernel
theorem dX8_leastPrice_50 : decode cX8_leastPrice 50 = .ok (.getfield 14, 3) := by decide +kernel
theorem dX8_leastPrice_53 : decode cX8_leastPrice 53 = .ok (.getfield 43, 3) := by decide +kernel
theorem dX8_leastPrice_56 : decode cX8_leastPrice 56 = .ok (.iload 5, 2) := by decide +kernel
theorem dX8_leastPrice_58 : decode cX8_leastPrice 58 = .ok (.iaload, 1) := by decide +kernel
theorem dX8_leastPrice_59 : decode cX8_leastPrice 59 = .ok (.iload_n 3, 1) := by decide +kernel
theorem dX8_leastPrice_60 : decode cX8_leastPrice 60 = .ok (.if_icmp .lt 7, 3) := by decide +kernel
theorem dX8_leastPrice_63 : decode cX8_leastPrice 63 = .ok (.iconst 0, 1) := by decide +kernel
theorem dX8_leastPrice_64 : decode cX8_leastPrice 64 = .ok (.goto 11, 3) := by decide +kernel
theorem dX8_leastPrice_67 : decode cX8_leastPrice 67 = .ok (.sipush 512, 3) := by decide +kernel
theorem dX8_leastPrice_70 : decode cX8_leastPrice 70 = .ok (.iconst 1, 1) := by decide +kernel
theorem dX8_leastPrice_71 : decode cX8_leastPrice 71 = .ok (.iload 5, 2) := by decide +kernel
theorem dX8_leastPrice_73 : decode cX8_leastPrice 73 = .ok (.ishl, 1) := by decide +kernel
theorem dX8_leastPrice_74 : decode cX8_leastPrice 74 = .ok (.iadd, 1) := by decide +kernel
theorem dX8_leastPrice_75 : decode cX8_leastPrice 75 = .ok (.invokevirtual 71, 3) := by decide +kernel
theorem dX8_leastPrice_78 : decode cX8_leastPrice 78 = .ok (.iinc 5 1, 3) := by decide +kernel
theorem dX8_leastPrice_81 : decode cX8_leastPrice 81 = .ok (.goto (-47), 3) := by decide +kernel
theorem dX8_leastPrice_84 : decode cX8_leastPrice 84 = .ok (.iinc 4 1, 3) := by decide +kernel
theorem dX8_leastPrice_87 : decode cX8_leastPrice 87 = .ok (.goto (-68), 3) := by decide +kernel
theorem dX8_leastPrice_90 : decode cX8_leastPrice 90 = .ok (.aload_n 0, 1) := by decide +kernel
theorem dX8_leastPrice_91 : decode cX8_leastPrice 91 = .ok (.getfield 18, 3) := by decide +kernel
theorem dX8_leastPrice_94 : decode cX8_leastPrice 94 = .ok (.iload_n 2, 1) := by decide +kernel
theorem dX8_leastPrice_95 : decode cX8_leastPrice 95 = .ok (.iaload, 1) := by decide +kernel
theorem dX8_leastPrice_96 : decode cX8_leastPrice 96 = .ok (.ireturn, 1) := by decide +kernel
theorem dX8_goBothWays_0 : decode cX8_goBothWays 0 = .ok (.aload_n 0, 1) := by decide +kernel
theorem dX8_goBothWays_1 : decode cX8_goBothWays 1 = .ok (.getfield 14, 3) := by decide +kernel
theorem dX8_goBothWays_4 : decode cX8_goBothWays 4 = .ok (.getfield 75, 3) := by decide +kernel
theorem dX8_goBothWays_7 : decode cX8_goBothWays 7 = .ok (.iload_n 1, 1) := by decide +kernel
theorem dX8_goBothWays_8 : decode cX8_goBothWays 8 = .ok (.iaload, 1) := by decide +kernel
theorem dX8_goBothWays_9 : decode cX8_goBothWays 9 = .ok (.istore_n 3, 1) := by decide +kernel
theorem dX8_goBothWays_10 : decode cX8_goBothWays 10 = .ok (.aload_n 0, 1) := by decide +kernel
theorem dX8_goBothWays_11 : decode cX8_goBothWays 11 = .ok (.getfield 14, 3) := by decide +kernel
theorem dX8_goBothWays_14 : decode cX8_goBothWays 14 = .ok (.getfield 78, 3) := by decide +kernel
theorem dX8_goBothWays_17 : decode cX8_goBothWays 17 = .ok (.iload_n 1, 1) := by decide +kernel
theorem dX8_goBothWays_18 : decode cX8_goBothWays 18 = .ok (.iaload, 1) := by decide +kernel
theorem dX8_goBothWays_19 : decode cX8_goBothWays 19 = .ok (.istore 4, 2) := by decide +kernel
theorem dX8_goBothWays_21 : decode cX8_goBothWays 21 = .ok (.aload_n 0, 1) := by decide +kernel
theorem dX8_goBothWays_22 : decode cX8_goBothWays 22 = .ok (.getfield 18, 3) := by decide +kernel
theorem dX8_goBothWays_25 : decode cX8_goBothWays 25 = .ok (.iload_n 3, 1) := by decide +kernel
theorem dX8_goBothWays_26 : decode cX8_goBothWays 26 = .ok (.aload_n 0, 1) := by decide +kernel
theorem dX8_goBothWays_27 : decode cX8_goBothWays 27 = .ok (.getfield 18, 3) := by decide +kernel
theorem dX8_goBothWays_30 : decode cX8_goBothWays 30 = .ok (.iload_n 3, 1) := by decide +kernel
theorem dX8_goBothWays_31 : decode cX8_goBothWays 31 = .ok (.iaload, 1) := by decide +kernel
theorem dX8_goBothWays_32 : decode cX8_goBothWays 32 = .ok (.aload_n 0, 1) := by decide +kernel
theorem dX8_goBothWays_33 : decode cX8_goBothWays 33 = .ok (.getfield 18, 3) := by decide +kernel
theorem dX8_goBothWays_36 : decode cX8_goBothWays 36 = .ok (.iload 4, 2) := by decide +kernel
theorem dX8_goBothWays_38 : decode cX8_goBothWays 38 = .ok (.iaload, 1) := by decide +kernel
theorem dX8_goBothWays_39 : decode cX8_goBothWays 39 = .ok (.iload_n 2, 1) := by decide +kernel
theorem dX8_goBothWays_40 : decode cX8_goBothWays 40 = .ok (.iadd, 1) := by decide +kernel
theorem dX8_goBothWays_41 : decode cX8_goBothWays 41 = .ok (.invokestatic 57, 3) := by decide +kernel
theorem dX8_goBothWays_44 : decode cX8_goBothWays 44 = .ok (.iastore, 1) := by decide +kernel
theorem dX8_goBothWays_45 : decode cX8_goBothWays 45 = .ok (.aload_n 0, 1) := by decide +kernel
theorem dX8_goBothWays_46 : decode cX8_goBothWays 46 = .ok (.getfield 18, 3) := by decide +kernel
theorem dX8_goBothWays_49 : decode cX8_goBothWays 49 = .ok (.iload 4, 2) := by decide +kernel
theorem dX8_goBothWays_51 : decode cX8_goBothWays 51 = .ok (.aload_n 0, 1) := by decide +kernel
theorem dX8_goBothWays_52 : decode cX8_goBothWays 52 = .ok (.getfield 18, 3) := by decide +kernel
theorem dX8_goBothWays_55 : decode cX8_goBothWays 55 = .ok (.iload 4, 2) := by decide +kernel
theorem dX8_goBothWays_57 : decode cX8_goBothWays 57 = .ok (.iaload, 1) := by decide +kernel
theorem dX8_goBothWays_58 : decode cX8_goBothWays 58 = .ok (.aload_n 0, 1) := by decide +kernel
theorem dX8_goBothWays_59 : decode cX8_goBothWays 59 = .ok (.getfield 18, 3) := by decide +kernel
theorem dX8_goBothWays_62 : decode cX8_goBothWays 62 = .ok (.iload_n 3, 1) := by decide +kernel
theorem dX8_goBothWays_63 : decode cX8_goBothWays 63 = .ok (.iaload, 1) := by decide +kernel
theorem dX8_goBothWays_64 : decode cX8_goBothWays 64 = .ok (.iload_n 2, 1) := by decide +kernel
theorem dX8_goBothWays_65 : decode cX8_goBothWays 65 = .ok (.iadd, 1) := by decide +kernel
theorem dX8_goBothWays_66 : decode cX8_goBothWays 66 = .ok (.invokestatic 57, 3) := by decide +kernel
theorem dX8_goBothWays_69 : decode cX8_goBothWays 69 = .ok (.iastore, 1) := by decide +kernel
theorem dX8_goBothWays_70 : decode cX8_goBothWays 70 = .ok (.return_, 1) := by decide +kernel
set_option maxRecDepth 20000 in
theorem ggX8_chances_X5_has : GoodIn wsX8_chances wsX5_has := goodIn_r _ [5] (by decide +kernel) (by decide +kernel)
set_option maxRecDepth 20000 in
theorem gX8_chances_X5_has : GoodIn wsX8_chances (va_wsS RX8 34 yX5_has wsX5_has) := goodIn_app (goodIn_of _ (by decide +kernel)) ggX8_chances_X5_has
set_option maxRecDepth 20000 in
theorem ggX8_chances_J6_bitCount_0f7a4 : GoodIn wsX8_chances wsJ6_bitCount_0f7a4 := goodIn_r _ [9, 10, 11, 12] (by decide +kernel) (by decide +kernel)
set_option maxRecDepth 20000 in
theorem gX8_chances_J6_bitCount_0f7a4 : GoodIn wsX8_chances (va_wsS RX8 81 yJ6_bitCount_0f7a4 wsJ6_bitCount_0f7a4) := goodIn_app (goodIn_of _ (by decide +kernel)) ggX8_chances_J6_bitCount_0f7a4
set_option maxRecDepth 20000 in
theorem ggX8_chances_X8_tenTo : GoodIn wsX8_chances wsX8_tenTo := goodIn_r _ [16] (by decide +kernel) (by decide +kernel)
set_option maxRecDepth 20000 in
theorem gX8_chances_X8_tenTo : GoodIn wsX8_chances (va_wsS RX8 86 yX8_tenTo wsX8_tenTo) := goodIn_app (goodIn_of _ (by decide +kernel)) ggX8_chances_X8_tenTo
set_option maxRecDepth 20000 in
theorem ggX8_chances_X8_streetOut : GoodIn wsX8_chances wsX8_streetOut := goodIn_r _ [20, 1, 21, 22, 2, 3, 4, 5, 23, 24, 25, 26, 27, 28, 29, 30, 31, 32, 47, 48, 49, 50, 51, 52, 53, 54, 55, 56, 57, 58, 59, 60, 61, 62, 63, 64, 65] (by decide +kernel) (by decide +kernel)
set_option maxRecDepth 20000 in
theorem gX8_chances_X8_streetOut : GoodIn wsX8_chances (wsV RX8 89 RX8 yX8_streetOut wsX8_streetOut) := goodIn_app (goodIn_of _ (by decide +kernel)) ggX8_chances_X8_streetOut
set_option maxRecDepth 20000 in
theorem ggX8_chances_X5_without : GoodIn wsX8_chances wsX5_without := goodIn_r _ [35] (by decide +kernel) (by decide +kernel)
set_option maxRecDepth 20000 in
theorem gX8_chances_X5_without : GoodIn wsX8_chances (va_wsS RX8 92 yX5_without wsX5_without) := goodIn_app (goodIn_of _ (by decide +kernel)) ggX8_chances_X5_without
set_option maxRecDepth 20000 in
theorem ggX8_chances_X7_endsOf : GoodIn wsX8_chances wsX7_endsOf := goodIn_r _ [41, 42, 43, 49, 50, 51, 52, 53, 54, 55, 56, 57, 58, 59, 60, 61, 62, 63, 64, 65] (by decide +kernel) (by decide +kernel)
set_option maxRecDepth 20000 in
theorem gX8_chances_X7_endsOf_u46X4 : GoodIn wsX8_chances (va_wsU RX8 46 RX4 "KindStreets$Town" ⟨"KindStreets$Plan", "endsOf", "(I)I"⟩ yX7_endsOf wsX7_endsOf) := goodIn_app (goodIn_of _ (by decide +kernel)) ggX8_chances_X7_endsOf
set_option maxRecDepth 20000 in
theorem ggX8_chances_X8_chances : GoodIn wsX8_chances wsX8_chances := goodIn_r _ [0, 1, 2, 3, 4, 5, 6, 7, 8, 9, 10, 11, 12, 13, 14, 15, 16, 17, 18, 19, 20, 21, 22, 23, 24, 25, 26, 27, 28, 29, 30, 31, 32, 33, 34, 35, 36, 37, 38, 39, 40, 41, 42, 43, 44, 45, 46, 47, 48, 49, 50, 51, 52, 53, 54, 55, 56, 57, 58, 59, 60, 61, 62, 63, 64, 65] (by decide +kernel) (by decide +kernel)
set_option maxRecDepth 20000 in
theorem gX8_chances_X8_chances : GoodIn wsX8_chances (wsV RX8 95 RX8 yX8_chances wsX8_chances) := goodIn_app (goodIn_of _ (by decide +kernel)) ggX8_chances_X8_chances
theorem dX8_chances_0 : decode cX8_chances 0 = .ok (.iload_n 1, 1) := by decide +kernel
theorem dX8_chances_1 : decode cX8_chances 1 = .ok (.iload_n 3, 1) := by decide +kernel
theorem dX8_chances_2 : decode cX8_chances 2 = .ok (.invokestatic 34, 3) := by decide +kernel
theorem dX8_chances_5 : decode cX8_chances 5 = .ok (.ifCond .eq 11, 3) := by decide +kernel
theorem dX8_chances_8 : decode cX8_chances 8 = .ok (.iload_n 2, 1) := by decide +kernel
theorem dX8_chances_9 : decode cX8_chances 9 = .ok (.invokestatic 81, 3) := by decide +kernel
theorem dX8_chances_12 : decode cX8_chances 12 = .ok (.invokestatic 86, 3) := by decide +kernel
theorem dX8_chances_15 : decode cX8_chances 15 = .ok (.ireturn, 1) := by decide +kernel
theorem dX8_chances_16 : decode cX8_chances 16 = .ok (.aload_n 0, 1) := by decide +kernel
theorem dX8_chances_17 : decode cX8_chances 17 = .ok (.iload_n 1, 1) := by decide +kernel
theorem dX8_chances_18 : decode cX8_chances 18 = .ok (.iload_n 2, 1) := by decide +kernel
theorem dX8_chances_19 : decode cX8_chances 19 = .ok (.invokevirtual 89, 3) := by decide +kernel
theorem dX8_chances_22 : decode cX8_chances 22 = .ok (.istore 5, 2) := by decide +kernel
theorem dX8_chances_24 : decode cX8_chances 24 = .ok (.iload 5, 2) := by decide +kernel
theorem dX8_chances_26 : decode cX8_chances 26 = .ok (.bipush (-9), 2) := by decide +kernel
theorem dX8_chances_28 : decode cX8_chances 28 = .ok (.if_icmp .ne 5, 3) := by decide +kernel
theorem dX8_chances_31 : decode cX8_chances 31 = .ok (.iconst 0, 1) := by decide +kernel
theorem dX8_chances_32 : decode cX8_chances 32 = .ok (.ireturn, 1) := by decide +kernel
theorem dX8_chances_33 : decode cX8_chances 33 = .ok (.iload_n 2, 1) := by decide +kernel
theorem dX8_chances_34 : decode cX8_chances 34 = .ok (.iload 5, 2) := by decide +kernel
theorem dX8_chances_36 : decode cX8_chances 36 = .ok (.invokestatic 92, 3) := by decide +kernel
theorem dX8_chances_39 : decode cX8_chances 39 = .ok (.istore 6, 2) := by decide +kernel
theorem dX8_chances_41 : decode cX8_chances 41 = .ok (.bipush 10, 2) := by decide +kernel
theorem dX8_chances_43 : decode cX8_chances 43 = .ok (.iload 4, 2) := by decide +kernel
theorem dX8_chances_45 : decode cX8_chances 45 = .ok (.isub, 1) := by decide +kernel
theorem dX8_chances_46 : decode cX8_chances 46 = .ok (.aload_n 0, 1) := by decide +kernel
theorem dX8_chances_47 : decode cX8_chances 47 = .ok (.iload_n 1, 1) := by decide +kernel
theorem dX8_chances_48 : decode cX8_chances 48 = .ok (.aload_n 0, 1) := by decide +kernel
theorem dX8_chances_49 : decode cX8_chances 49 = .ok (.getfield 14, 3) := by decide +kernel
theorem dX8_chances_52 : decode cX8_chances 52 = .ok (.iload 5, 2) := by decide +kernel
theorem dX8_chances_54 : decode cX8_chances 54 = .ok (.invokevirtual 46, 3) := by decide +kernel
theorem dX8_chances_57 : decode cX8_chances 57 = .ok (.ior, 1) := by decide +kernel
theorem dX8_chances_58 : decode cX8_chances 58 = .ok (.iload 6, 2) := by decide +kernel
theorem dX8_chances_60 : decode cX8_chances 60 = .ok (.iload_n 3, 1) := by decide +kernel
theorem dX8_chances_61 : decode cX8_chances 61 = .ok (.iload 4, 2) := by decide +kernel
theorem dX8_chances_63 : decode cX8_chances 63 = .ok (.invokevirtual 95, 3) := by decide +kernel
theorem dX8_chances_66 : decode cX8_chances 66 = .ok (.imul, 1) := by decide +kernel
theorem dX8_chances_67 : decode cX8_chances 67 = .ok (.iload 4, 2) := by decide +kernel
theorem dX8_chances_69 : decode cX8_chances 69 = .ok (.aload_n 0, 1) := by decide +kernel
theorem dX8_chances_70 : decode cX8_chances 70 = .ok (.iload_n 1, 1) := by decide +kernel
theorem dX8_chances_71 : decode cX8_chances 71 = .ok (.iload 6, 2) := by decide +kernel
theorem dX8_chances_73 : decode cX8_chances 73 = .ok (.iload_n 3, 1) := by decide +kernel
theorem dX8_chances_74 : decode cX8_chances 74 = .ok (.iload 4, 2) := by decide +kernel
theorem dX8_chances_76 : decode cX8_chances 76 = .ok (.invokevirtual 95, 3) := by decide +kernel
theorem dX8_chances_79 : decode cX8_chances 79 = .ok (.imul, 1) := by decide +kernel
theorem dX8_chances_80 : decode cX8_chances 80 = .ok (.iadd, 1) := by decide +kernel
theorem dX8_chances_81 : decode cX8_chances 81 = .ok (.ireturn, 1) := by decide +kernel
set_option maxRecDepth 20000 in
theorem ggX8_streetOut_X5_has : GoodIn wsX8_streetOut wsX5_has := goodIn_r _ [7] (by decide +kernel) (by decide +kernel)
set_option maxRecDepth 20000 in
theorem gX8_streetOut_X5_has : GoodIn wsX8_streetOut (va_wsS RX8 34 yX5_has wsX5_has) := goodIn_app (goodIn_of _ (by decide +kernel)) ggX8_streetOut_X5_has
set_option maxRecDepth 20000 in
theorem ggX8_streetOut_X4_leadsOut : GoodIn wsX8_streetOut wsX4_leadsOut := goodIn_r _ [12, 13, 14, 15, 16, 17, 5, 6, 7, 20, 21, 22, 23, 24, 25, 26, 27, 28, 29, 30, 31, 32, 33, 34, 35, 36] (by decide +kernel) (by decide +kernel)
set_option maxRecDepth 20000 in
theorem gX8_streetOut_X4_leadsOut : GoodIn wsX8_streetOut (wsV RX8 62 RX4 yX4_leadsOut wsX4_leadsOut) := goodIn_app (goodIn_of _ (by decide +kernel)) ggX8_streetOut_X4_leadsOut
theorem dX8_streetOut_0 : decode cX8_streetOut 0 = .ok (.iconst 0, 1) := by decide +kernel
theorem dX8_streetOut_1 : decode cX8_streetOut 1 = .ok (.istore_n 3, 1) := by decide +kernel
theorem dX8_streetOut_2 : decode cX8_streetOut 2 = .ok (.iload_n 3, 1) := by decide +kernel
theorem dX8_streetOut_3 : decode cX8_streetOut 3 = .ok (.aload_n 0, 1) := by decide +kernel
theorem dX8_streetOut_4 : decode cX8_streetOut 4 = .ok (.getfield 14, 3) := by decide +kernel
theorem dX8_streetOut_7 : decode cX8_streetOut 7 = .ok (.getfield 40, 3) := by decide +kernel
theorem dX8_streetOut_10 : decode cX8_streetOut 10 = .ok (.if_icmp .ge 31, 3) := by decide +kernel
theorem dX8_streetOut_13 : decode cX8_streetOut 13 = .ok (.iload_n 2, 1) := by decide +kernel
theorem dX8_streetOut_14 : decode cX8_streetOut 14 = .ok (.iload_n 3, 1) := by decide +kernel
theorem dX8_streetOut_15 : decode cX8_streetOut 15 = .ok (.invokestatic 34, 3) := by decide +kernel
theorem dX8_streetOut_18 : decode cX8_streetOut 18 = .ok (.ifCond .eq 17, 3) := by decide +kernel
theorem dX8_streetOut_21 : decode cX8_streetOut 21 = .ok (.aload_n 0, 1) := by decide +kernel
theorem dX8_streetOut_22 : decode cX8_streetOut 22 = .ok (.getfield 14, 3) := by decide +kernel
theorem dX8_streetOut_25 : decode cX8_streetOut 25 = .ok (.iload_n 3, 1) := by decide +kernel
theorem dX8_streetOut_26 : decode cX8_streetOut 26 = .ok (.iload_n 1, 1) := by decide +kernel
theorem dX8_streetOut_27 : decode cX8_streetOut 27 = .ok (.invokevirtual 62, 3) := by decide +kernel
theorem dX8_streetOut_30 : decode cX8_streetOut 30 = .ok (.ifCond .eq 5, 3) := by decide +kernel
theorem dX8_streetOut_33 : decode cX8_streetOut 33 = .ok (.iload_n 3, 1) := by decide +kernel
theorem dX8_streetOut_34 : decode cX8_streetOut 34 = .ok (.ireturn, 1) := by decide +kernel
theorem dX8_streetOut_35 : decode cX8_streetOut 35 = .ok (.iinc 3 1, 3) := by decide +kernel
theorem dX8_streetOut_38 : decode cX8_streetOut 38 = .ok (.goto (-36), 3) := by decide +kernel
theorem dX8_streetOut_41 : decode cX8_streetOut 41 = .ok (.bipush (-9), 2) := by decide +kernel
theorem dX8_streetOut_43 : decode cX8_streetOut 43 = .ok (.ireturn, 1) := by decide +kernel
theorem dJ6_bitCount_0f7a4_0 : decode cJ6_bitCount_0f7a4 0 = .ok (.iload_n 0, 1) := by decide +kernel
theorem dJ6_bitCount_0f7a4_1 : decode cJ6_bitCount_0f7a4 1 = .ok (.iload_n 0, 1) := by decide +kernel
theorem dJ6_bitCount_0f7a4_2 : decode cJ6_bitCount_0f7a4 2 = .ok (.iconst 1, 1) := by decide +kernel
theorem dJ6_bitCount_0f7a4_3 : decode cJ6_bitCount_0f7a4 3 = .ok (.iushr, 1) := by decide +kernel
theorem dJ6_bitCount_0f7a4_4 : decode cJ6_bitCount_0f7a4 4 = .ok (.ldc_w 265, 3) := by decide +kernel
theorem dJ6_bitCount_0f7a4_7 : decode cJ6_bitCount_0f7a4 7 = .ok (.iand, 1) := by decide +kernel
theorem dJ6_bitCount_0f7a4_8 : decode cJ6_bitCount_0f7a4 8 = .ok (.isub, 1) := by decide +kernel
theorem dJ6_bitCount_0f7a4_9 : decode cJ6_bitCount_0f7a4 9 = .ok (.istore_n 0, 1) := by decide +kernel
theorem dJ6_bitCount_0f7a4_10 : decode cJ6_bitCount_0f7a4 10 = .ok (.iload_n 0, 1) := by decide +kernel
theorem dJ6_bitCount_0f7a4_11 : decode cJ6_bitCount_0f7a4 11 = .ok (.ldc_w 266, 3) := by decide +kernel
theorem dJ6_bitCount_0f7a4_14 : decode cJ6_bitCount_0f7a4 14 = .ok (.iand, 1) := by decide +kernel
theorem dJ6_bitCount_0f7a4_15 : decode cJ6_bitCount_0f7a4 15 = .ok (.iload_n 0, 1) := by decide +kernel
theorem dJ6_bitCount_0f7a4_16 : decode cJ6_bitCount_0f7a4 16 = .ok (.iconst 2, 1) := by decide +kernel
theorem dJ6_bitCount_0f7a4_17 : decode cJ6_bitCount_0f7a4 17 = .ok (.iushr, 1) := by decide +kernel
theorem dJ6_bitCount_0f7a4_18 : decode cJ6_bitCount_0f7a4 18 = .ok (.ldc_w 266, 3) := by decide +kernel
theorem dJ6_bitCount_0f7a4_21 : decode cJ6_bitCount_0f7a4 21 = .ok (.iand, 1) := by decide +kernel
theorem dJ6_bitCount_0f7a4_22 : decode cJ6_bitCount_0f7a4 22 = .ok (.iadd, 1) := by decide +kernel
theorem dJ6_bitCount_0f7a4_23 : decode cJ6_bitCount_0f7a4 23 = .ok (.istore_n 0, 1) := by decide +kernel
theorem dJ6_bitCount_0f7a4_24 : decode cJ6_bitCount_0f7a4 24 = .ok (.iload_n 0, 1) := by decide +kernel
theorem dJ6_bitCount_0f7a4_25 : decode cJ6_bitCount_0f7a4 25 = .ok (.iload_n 0, 1) := by decide +kernel
theorem dJ6_bitCount_0f7a4_26 : decode cJ6_bitCount_0f7a4 26 = .ok (.iconst 4, 1) := by decide +kernel
theorem dJ6_bitCount_0f7a4_27 : decode cJ6_bitCount_0f7a4 27 = .ok (.iushr, 1) := by decide +kernel
theorem dJ6_bitCount_0f7a4_28 : decode cJ6_bitCount_0f7a4 28 = .ok (.iadd, 1) := by decide +kernel
theorem dJ6_bitCount_0f7a4_29 : decode cJ6_bitCount_0f7a4 29 = .ok (.ldc_w 267, 3) := by decide +kernel
theorem dJ6_bitCount_0f7a4_32 : decode cJ6_bitCount_0f7a4 32 = .ok (.iand, 1) := by decide +kernel
theorem dJ6_bitCount_0f7a4_33 : decode cJ6_bitCount_0f7a4 33 = .ok (.istore_n 0, 1) := by decide +kernel
theorem dJ6_bitCount_0f7a4_34 : decode cJ6_bitCount_0f7a4 34 = .ok (.iload_n 0, 1) := by decide +kernel
theorem dJ6_bitCount_0f7a4_35 : decode cJ6_bitCount_0f7a4 35 = .ok (.iload_n 0, 1) := by decide +kernel
theorem dJ6_bitCount_0f7a4_36 : decode cJ6_bitCount_0f7a4 36 = .ok (.bipush 8, 2) := by decide +kernel
theorem dJ6_bitCount_0f7a4_38 : decode cJ6_bitCount_0f7a4 38 = .ok (.iushr, 1) := by decide +kernel
theorem dJ6_bitCount_0f7a4_39 : decode cJ6_bitCount_0f7a4 39 = .ok (.iadd, 1) := by decide +kernel
theorem dJ6_bitCount_0f7a4_40 : decode cJ6_bitCount_0f7a4 40 = .ok (.istore_n 0, 1) := by decide +kernel
theorem dJ6_bitCount_0f7a4_41 : decode cJ6_bitCount_0f7a4 41 = .ok (.iload_n 0, 1) := by decide +kernel
theorem dJ6_bitCount_0f7a4_42 : decode cJ6_bitCount_0f7a4 42 = .ok (.iload_n 0, 1) := by decide +kernel
theorem dJ6_bitCount_0f7a4_43 : decode cJ6_bitCount_0f7a4 43 = .ok (.bipush 16, 2) := by decide +kernel
theorem dJ6_bitCount_0f7a4_45 : decode cJ6_bitCount_0f7a4 45 = .ok (.iushr, 1) := by decide +kernel
theorem dJ6_bitCount_0f7a4_46 : decode cJ6_bitCount_0f7a4 46 = .ok (.iadd, 1) := by decide +kernel
theorem dJ6_bitCount_0f7a4_47 : decode cJ6_bitCount_0f7a4 47 = .ok (.istore_n 0, 1) := by decide +kernel
theorem dJ6_bitCount_0f7a4_48 : decode cJ6_bitCount_0f7a4 48 = .ok (.iload_n 0, 1) := by decide +kernel
theorem dJ6_bitCount_0f7a4_49 : decode cJ6_bitCount_0f7a4 49 = .ok (.bipush 63, 2) := by decide +kernel
theorem dJ6_bitCount_0f7a4_51 : decode cJ6_bitCount_0f7a4 51 = .ok (.iand, 1) := by decide +kernel
theorem dJ6_bitCount_0f7a4_52 : decode cJ6_bitCount_0f7a4 52 = .ok (.ireturn, 1) := by decide +kernel
theorem dJ9_max_7cf53_0 : decode cJ9_max_7cf53 0 = .ok (.iload_n 0, 1) := by decide +kernel
theorem dJ9_max_7cf53_1 : decode cJ9_max_7cf53 1 = .ok (.iload_n 1, 1) := by decide +kernel
theorem dJ9_max_7cf53_2 : decode cJ9_max_7cf53 2 = .ok (.if_icmp .lt 7, 3) := by decide +kernel
theorem dJ9_max_7cf53_5 : decode cJ9_max_7cf53 5 = .ok (.iload_n 0, 1) := by decide +kernel
theorem dJ9_max_7cf53_6 : decode cJ9_max_7cf53 6 = .ok (.goto 4, 3) := by decide +kernel
theorem dJ9_max_7cf53_9 : decode cJ9_max_7cf53 9 = .ok (.iload_n 1, 1) := by decide +kernel
theorem dJ9_max_7cf53_10 : decode cJ9_max_7cf53 10 = .ok (.ireturn, 1) := by decide +kernel
theorem dJ9_min_7cf53_0 : decode cJ9_min_7cf53 0 = .ok (.iload_n 0, 1) := by decide +kernel
theorem dJ9_min_7cf53_1 : decode cJ9_min_7cf53 1 = .ok (.iload_n 1, 1) := by decide +kernel
theorem dJ9_min_7cf53_2 : decode cJ9_min_7cf53 2 = .ok (.if_icmp .gt 7, 3) := by decide +kernel
theorem dJ9_min_7cf53_5 : decode cJ9_min_7cf53 5 = .ok (.iload_n 0, 1) := by decide +kernel
theorem dJ9_min_7cf53_6 : decode cJ9_min_7cf53 6 = .ok (.goto 4, 3) := by decide +kernel
theorem dJ9_min_7cf53_9 : decode cJ9_min_7cf53 9 = .ok (.iload_n 1, 1) := by decide +kernel
theorem dJ9_min_7cf53_10 : decode cJ9_min_7cf53 10 = .ok (.ireturn, 1) := by decide +kernel
theorem dJ7_fill_53178_0 : decode cJ7_fill_53178 0 = .ok (.iconst 0, 1) := by decide +kernel
theorem dJ7_fill_53178_1 : decode cJ7_fill_53178 1 = .ok (.istore_n 2, 1) := by decide +kernel
theorem dJ7_fill_53178_2 : decode cJ7_fill_53178 2 = .ok (.aload_n 0, 1) := by decide +kernel
theorem dJ7_fill_53178_3 : decode cJ7_fill_53178 3 = .ok (.arraylength, 1) := by decide +kernel
theorem dJ7_fill_53178_4 : decode cJ7_fill_53178 4 = .ok (.istore_n 3, 1) := by decide +kernel
theorem dJ7_fill_53178_5 : decode cJ7_fill_53178 5 = .ok (.iload_n 2, 1) := by decide +kernel
theorem dJ7_fill_53178_6 : decode cJ7_fill_53178 6 = .ok (.iload_n 3, 1) := by decide +kernel
theorem dJ7_fill_53178_7 : decode cJ7_fill_53178 7 = .ok (.if_icmp .ge 13, 3) := by decide +kernel
theorem dJ7_fill_53178_10 : decode cJ7_fill_53178 10 = .ok (.aload_n 0, 1) := by decide +kernel
theorem dJ7_fill_53178_11 : decode cJ7_fill_53178 11 = .ok (.iload_n 2, 1) := by decide +kernel
theorem dJ7_fill_53178_12 : decode cJ7_fill_53178 12 = .ok (.iload_n 1, 1) := by decide +kernel
theorem dJ7_fill_53178_13 : decode cJ7_fill_53178 13 = .ok (.iastore, 1) := by decide +kernel
theorem dJ7_fill_53178_14 : decode cJ7_fill_53178 14 = .ok (.iinc 2 1, 3) := by decide +kernel
theorem dJ7_fill_53178_17 : decode cJ7_fill_53178 17 = .ok (.goto (-12), 3) := by decide +kernel
theorem dJ7_fill_53178_20 : decode cJ7_fill_53178 20 = .ok (.return_, 1) := by decide +kernel
