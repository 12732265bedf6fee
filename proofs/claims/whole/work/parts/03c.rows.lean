set_option maxRecDepth 20000 in
theorem ggX9_init_X6_init : GoodIn wsX9_init wsX6_init := goodIn_r _ [32, 33, 2, 3, 34, 35, 92, 93, 94] (by decide +kernel) (by decide +kernel)
set_option maxRecDepth 20000 in
theorem gX9_init_X6_init : GoodIn wsX9_init (wsX6_init) := ggX9_init_X6_init
set_option maxRecDepth 20000 in
theorem ggX9_init_X7_init : GoodIn wsX9_init wsX7_init := goodIn_r _ [38, 39, 2, 3, 40, 34, 41, 42, 43, 44, 45, 124, 125, 126, 127, 128, 129, 130, 131, 132, 105, 106, 107, 108, 109, 110, 111, 112] (by decide +kernel) (by decide +kernel)
set_option maxRecDepth 20000 in
theorem gX9_init_X7_init : GoodIn wsX9_init (wsX7_init) := ggX9_init_X7_init
set_option maxRecDepth 20000 in
theorem ggX9_init_X3_init : GoodIn wsX9_init wsX3_init := goodIn_r _ [48, 49, 2, 3, 50, 51, 52, 53, 54, 55, 56, 57, 58, 34, 59, 60, 61, 62, 133, 134, 135, 136, 137, 113, 114, 115] (by decide +kernel) (by decide +kernel)
set_option maxRecDepth 20000 in
theorem gX9_init_X3_init : GoodIn wsX9_init (wsX3_init) := ggX9_init_X3_init
set_option maxRecDepth 20000 in
theorem ggX9_init_X8_init : GoodIn wsX9_init wsX8_init := goodIn_r _ [65, 66, 2, 3, 67, 68, 69, 70, 34, 71, 72, 73, 74, 75, 76, 37, 10, 38, 39, 40, 41, 42, 43, 44, 45, 124, 125, 126, 127, 128, 129, 130, 131, 132, 116, 117, 105, 106, 107, 108, 109, 110, 111, 112] (by decide +kernel) (by decide +kernel)
set_option maxRecDepth 20000 in
theorem gX9_init_X8_init : GoodIn wsX9_init (wsX8_init) := ggX9_init_X8_init
set_option maxRecDepth 20000 in
theorem ggX9_init_X0_init : GoodIn wsX9_init wsX0_init := goodIn_r _ [79, 80, 2, 3, 34, 81, 82, 68, 69, 83, 84, 73, 74, 75, 76, 37, 10, 38, 39, 40, 41, 42, 43, 44, 45, 118, 119, 124, 125, 126, 127, 128, 129, 130, 131, 132, 105, 106, 107, 108, 109, 110, 111, 112] (by decide +kernel) (by decide +kernel)
set_option maxRecDepth 20000 in
theorem gX9_init_X0_init : GoodIn wsX9_init (wsX0_init) := ggX9_init_X0_init
set_option maxRecDepth 20000 in
theorem ggX9_init_X1_init : GoodIn wsX9_init wsX1_init := goodIn_r _ [87, 88, 2, 3, 34, 89, 90, 91, 120, 121, 122, 123] (by decide +kernel) (by decide +kernel)
set_option maxRecDepth 20000 in
theorem gX9_init_X1_init : GoodIn wsX9_init (wsX1_init) := ggX9_init_X1_init
theorem dX9_init_0 : decode cX9_init 0 = .ok (.aload_n 0, 1) := by decide +kernel
theorem dX9_init_1 : decode cX9_init 1 = .ok (.invokespecial 1, 3) := by decide +kernel
theorem dX9_init_4 : decode cX9_init 4 = .ok (.aload_n 0, 1) := by decide +kernel
theorem dX9_init_5 : decode cX9_init 5 = .ok (.new 7, 3) := by decide +kernel
theorem dX9_init_8 : decode cX9_init 8 = .ok (.dup, 1) := by decide +kernel
theorem dX9_init_9 : decode cX9_init 9 = .ok (.invokespecial 9, 3) := by decide +kernel
theorem dX9_init_12 : decode cX9_init 12 = .ok (.putfield 10, 3) := by decide +kernel
theorem dX9_init_15 : decode cX9_init 15 = .ok (.aload_n 0, 1) := by decide +kernel
theorem dX9_init_16 : decode cX9_init 16 = .ok (.new 16, 3) := by decide +kernel
theorem dX9_init_19 : decode cX9_init 19 = .ok (.dup, 1) := by decide +kernel
theorem dX9_init_20 : decode cX9_init 20 = .ok (.invokespecial 18, 3) := by decide +kernel
theorem dX9_init_23 : decode cX9_init 23 = .ok (.putfield 19, 3) := by decide +kernel
theorem dX9_init_26 : decode cX9_init 26 = .ok (.aload_n 0, 1) := by decide +kernel
theorem dX9_init_27 : decode cX9_init 27 = .ok (.new 16, 3) := by decide +kernel
theorem dX9_init_30 : decode cX9_init 30 = .ok (.dup, 1) := by decide +kernel
theorem dX9_init_31 : decode cX9_init 31 = .ok (.invokespecial 18, 3) := by decide +kernel
theorem dX9_init_34 : decode cX9_init 34 = .ok (.putfield 23, 3) := by decide +kernel
theorem dX9_init_37 : decode cX9_init 37 = .ok (.aload_n 0, 1) := by decide +kernel
theorem dX9_init_38 : decode cX9_init 38 = .ok (.new 26, 3) := by decide +kernel
theorem dX9_init_41 : decode cX9_init 41 = .ok (.dup, 1) := by decide +kernel
theorem dX9_init_42 : decode cX9_init 42 = .ok (.invokespecial 28, 3) := by decide +kernel
theorem dX9_init_45 : decode cX9_init 45 = .ok (.putfield 29, 3) := by decide +kernel
theorem dX9_init_48 : decode cX9_init 48 = .ok (.aload_n 0, 1) := by decide +kernel
theorem dX9_init_49 : decode cX9_init 49 = .ok (.iconst 2, 1) := by decide +kernel
theorem dX9_init_50 : decode cX9_init 50 = .ok (.anewarray 26, 3) := by decide +kernel
theorem dX9_init_53 : decode cX9_init 53 = .ok (.dup, 1) := by decide +kernel
theorem dX9_init_54 : decode cX9_init 54 = .ok (.iconst 0, 1) := by decide +kernel
theorem dX9_init_55 : decode cX9_init 55 = .ok (.new 26, 3) := by decide +kernel
theorem dX9_init_58 : decode cX9_init 58 = .ok (.dup, 1) := by decide +kernel
theorem dX9_init_59 : decode cX9_init 59 = .ok (.invokespecial 28, 3) := by decide +kernel
theorem dX9_init_62 : decode cX9_init 62 = .ok (.aastore, 1) := by decide +kernel
theorem dX9_init_63 : decode cX9_init 63 = .ok (.dup, 1) := by decide +kernel
theorem dX9_init_64 : decode cX9_init 64 = .ok (.iconst 1, 1) := by decide +kernel
theorem dX9_init_65 : decode cX9_init 65 = .ok (.new 26, 3) := by decide +kernel
theorem dX9_init_68 : decode cX9_init 68 = .ok (.dup, 1) := by decide +kernel
theorem dX9_init_69 : decode cX9_init 69 = .ok (.invokespecial 28, 3) := by decide +kernel
theorem dX9_init_72 : decode cX9_init 72 = .ok (.aastore, 1) := by decide +kernel
theorem dX9_init_73 : decode cX9_init 73 = .ok (.putfield 33, 3) := by decide +kernel
theorem dX9_init_76 : decode cX9_init 76 = .ok (.aload_n 0, 1) := by decide +kernel
theorem dX9_init_77 : decode cX9_init 77 = .ok (.new 37, 3) := by decide +kernel
theorem dX9_init_80 : decode cX9_init 80 = .ok (.dup, 1) := by decide +kernel
theorem dX9_init_81 : decode cX9_init 81 = .ok (.invokespecial 39, 3) := by decide +kernel
theorem dX9_init_84 : decode cX9_init 84 = .ok (.putfield 40, 3) := by decide +kernel
theorem dX9_init_87 : decode cX9_init 87 = .ok (.aload_n 0, 1) := by decide +kernel
theorem dX9_init_88 : decode cX9_init 88 = .ok (.new 44, 3) := by decide +kernel
theorem dX9_init_91 : decode cX9_init 91 = .ok (.dup, 1) := by decide +kernel
theorem dX9_init_92 : decode cX9_init 92 = .ok (.invokespecial 46, 3) := by decide +kernel
theorem dX9_init_95 : decode cX9_init 95 = .ok (.putfield 47, 3) := by decide +kernel
theorem dX9_init_98 : decode cX9_init 98 = .ok (.aload_n 0, 1) := by decide +kernel
theorem dX9_init_99 : decode cX9_init 99 = .ok (.new 51, 3) := by decide +kernel
theorem dX9_init_102 : decode cX9_init 102 = .ok (.dup, 1) := by decide +kernel
theorem dX9_init_103 : decode cX9_init 103 = .ok (.invokespecial 53, 3) := by decide +kernel
theorem dX9_init_106 : decode cX9_init 106 = .ok (.putfield 54, 3) := by decide +kernel
theorem dX9_init_109 : decode cX9_init 109 = .ok (.return_, 1) := by decide +kernel
set_option maxRecDepth 20000 in
theorem ggX9_type_X9_isWithin : GoodIn wsX9_type wsX9_isWithin := goodIn_r _ [6] (by decide +kernel) (by decide +kernel)
set_option maxRecDepth 20000 in
theorem gX9_type_X9_isWithin : GoodIn wsX9_type (va_wsS RX9 58 yX9_isWithin wsX9_isWithin) := goodIn_app (goodIn_of _ (by decide +kernel)) ggX9_type_X9_isWithin
set_option maxRecDepth 20000 in
theorem ggX9_type_X6_add : GoodIn wsX9_type wsX6_add := goodIn_r _ [11, 12, 13, 24, 25, 26] (by decide +kernel) (by decide +kernel)
set_option maxRecDepth 20000 in
theorem gX9_type_X6_add : GoodIn wsX9_type (wsV RX9 66 RX6 yX6_add wsX6_add) := goodIn_app (goodIn_of _ (by decide +kernel)) ggX9_type_X6_add
theorem dX9_type_0 : decode cX9_type 0 = .ok (.iload_n 1, 1) := by decide +kernel
theorem dX9_type_1 : decode cX9_type 1 = .ok (.iconst 0, 1) := by decide +kernel
theorem dX9_type_2 : decode cX9_type 2 = .ok (.sipush 255, 3) := by decide +kernel
theorem dX9_type_5 : decode cX9_type 5 = .ok (.invokestatic 58, 3) := by decide +kernel
theorem dX9_type_8 : decode cX9_type 8 = .ok (.ifCond .ne 5, 3) := by decide +kernel
theorem dX9_type_11 : decode cX9_type 11 = .ok (.iconst (-1), 1) := by decide +kernel
theorem dX9_type_12 : decode cX9_type 12 = .ok (.ireturn, 1) := by decide +kernel
theorem dX9_type_13 : decode cX9_type 13 = .ok (.aload_n 0, 1) := by decide +kernel
theorem dX9_type_14 : decode cX9_type 14 = .ok (.getfield 10, 3) := by decide +kernel
theorem dX9_type_17 : decode cX9_type 17 = .ok (.getfield 62, 3) := by decide +kernel
theorem dX9_type_20 : decode cX9_type 20 = .ok (.bipush 120, 2) := by decide +kernel
theorem dX9_type_22 : decode cX9_type 22 = .ok (.if_icmp .lt 6, 3) := by decide +kernel
theorem dX9_type_25 : decode cX9_type 25 = .ok (.bipush (-3), 2) := by decide +kernel
theorem dX9_type_27 : decode cX9_type 27 = .ok (.ireturn, 1) := by decide +kernel
theorem dX9_type_28 : decode cX9_type 28 = .ok (.aload_n 0, 1) := by decide +kernel
theorem dX9_type_29 : decode cX9_type 29 = .ok (.getfield 10, 3) := by decide +kernel
theorem dX9_type_32 : decode cX9_type 32 = .ok (.iload_n 1, 1) := by decide +kernel
theorem dX9_type_33 : decode cX9_type 33 = .ok (.invokevirtual 66, 3) := by decide +kernel
theorem dX9_type_36 : decode cX9_type 36 = .ok (.aload_n 0, 1) := by decide +kernel
theorem dX9_type_37 : decode cX9_type 37 = .ok (.getfield 10, 3) := by decide +kernel
theorem dX9_type_40 : decode cX9_type 40 = .ok (.getfield 62, 3) := by decide +kernel
theorem dX9_type_43 : decode cX9_type 43 = .ok (.ireturn, 1) := by decide +kernel
theorem dX9_clear_0 : decode cX9_clear 0 = .ok (.aload_n 0, 1) := by decide +kernel
theorem dX9_clear_1 : decode cX9_clear 1 = .ok (.getfield 10, 3) := by decide +kernel
theorem dX9_clear_4 : decode cX9_clear 4 = .ok (.getfield 62, 3) := by decide +kernel
theorem dX9_clear_7 : decode cX9_clear 7 = .ok (.istore_n 1, 1) := by decide +kernel
theorem dX9_clear_8 : decode cX9_clear 8 = .ok (.aload_n 0, 1) := by decide +kernel
theorem dX9_clear_9 : decode cX9_clear 9 = .ok (.getfield 10, 3) := by decide +kernel
theorem dX9_clear_12 : decode cX9_clear 12 = .ok (.iconst 0, 1) := by decide +kernel
theorem dX9_clear_13 : decode cX9_clear 13 = .ok (.putfield 62, 3) := by decide +kernel
theorem dX9_clear_16 : decode cX9_clear 16 = .ok (.iload_n 1, 1) := by decide +kernel
theorem dX9_clear_17 : decode cX9_clear 17 = .ok (.ireturn, 1) := by decide +kernel
set_option maxRecDepth 20000 in
theorem ggX9_town_X6_readInto : GoodIn wsX9_town wsX6_readInto := goodIn_r _ [13, 14, 15, 16, 17, 18, 19, 20, 21, 22, 23, 24, 25, 26, 27, 28, 29, 12, 30, 31, 32, 33, 34, 35, 36, 37, 38, 39, 40, 41, 42, 43, 44, 45, 46, 47, 48, 49, 50, 51, 52, 53, 54, 55, 56, 57, 58, 59, 60, 61, 62, 63, 64, 65, 66, 67, 68, 69, 70, 71, 72, 73, 74, 75, 76, 77, 78, 79, 80, 81, 82, 83, 84, 85, 140, 141, 142, 143, 144, 145, 146, 147, 148, 149, 150, 151, 152, 153, 154, 155, 156, 157, 158, 159] (by decide +kernel) (by decide +kernel)
set_option maxRecDepth 20000 in
theorem gX9_town_X6_readInto : GoodIn wsX9_town (wsV RX9 70 RX6 yX6_readInto wsX6_readInto) := goodIn_app (goodIn_of _ (by decide +kernel)) ggX9_town_X6_readInto
set_option maxRecDepth 20000 in
theorem ggX9_town_X7_become : GoodIn wsX9_town wsX7_become := goodIn_r _ [90, 22, 23, 24, 91, 92, 93, 94, 95, 96, 97, 98, 99, 143, 144, 145, 146, 147, 148, 149, 150, 151, 152, 153, 154, 155, 156, 157, 158, 159] (by decide +kernel) (by decide +kernel)
set_option maxRecDepth 20000 in
theorem gX9_town_X7_become_u74X4 : GoodIn wsX9_town (va_wsU RX9 74 RX4 "KindStreets$Town" ⟨"KindStreets$Town", "become", "(LKindStreets$Town;)V"⟩ yX7_become wsX7_become) := goodIn_app (goodIn_of _ (by decide +kernel)) ggX9_town_X7_become
set_option maxRecDepth 20000 in
theorem gX9_town_X7_become : GoodIn wsX9_town (wsV RX9 74 RX7 yX7_become wsX7_become) := goodIn_app (goodIn_of _ (by decide +kernel)) ggX9_town_X7_become
set_option maxRecDepth 20000 in
theorem ggX9_town_X3_begin : GoodIn wsX9_town wsX3_begin := goodIn_r _ [106, 107, 108, 109, 110, 111, 112, 113, 114, 115, 116, 93, 94, 95, 117, 118, 119, 120, 121, 122, 123, 124, 125, 160, 161, 162, 143, 144, 145, 146, 147, 148, 149, 150, 151, 152, 153, 154, 155, 156, 157, 158, 159, 163, 164, 165, 166, 167] (by decide +kernel) (by decide +kernel)
set_option maxRecDepth 20000 in
theorem gX9_town_X3_begin : GoodIn wsX9_town (wsV RX9 78 RX3 yX3_begin wsX3_begin) := goodIn_app (goodIn_of _ (by decide +kernel)) ggX9_town_X3_begin
theorem dX9_town_0 : decode cX9_town 0 = .ok (.aload_n 0, 1) := by decide +kernel
theorem dX9_town_1 : decode cX9_town 1 = .ok (.getfield 10, 3) := by decide +kernel
theorem dX9_town_4 : decode cX9_town 4 = .ok (.aload_n 0, 1) := by decide +kernel
theorem dX9_town_5 : decode cX9_town 5 = .ok (.getfield 19, 3) := by decide +kernel
theorem dX9_town_8 : decode cX9_town 8 = .ok (.invokevirtual 70, 3) := by decide +kernel
theorem dX9_town_11 : decode cX9_town 11 = .ok (.istore_n 1, 1) := by decide +kernel
theorem dX9_town_12 : decode cX9_town 12 = .ok (.iload_n 1, 1) := by decide +kernel
theorem dX9_town_13 : decode cX9_town 13 = .ok (.ifCond .ge 5, 3) := by decide +kernel
theorem dX9_town_16 : decode cX9_town 16 = .ok (.iload_n 1, 1) := by decide +kernel
theorem dX9_town_17 : decode cX9_town 17 = .ok (.ireturn, 1) := by decide +kernel
theorem dX9_town_18 : decode cX9_town 18 = .ok (.aload_n 0, 1) := by decide +kernel
theorem dX9_town_19 : decode cX9_town 19 = .ok (.getfield 23, 3) := by decide +kernel
theorem dX9_town_22 : decode cX9_town 22 = .ok (.aload_n 0, 1) := by decide +kernel
theorem dX9_town_23 : decode cX9_town 23 = .ok (.getfield 19, 3) := by decide +kernel
theorem dX9_town_26 : decode cX9_town 26 = .ok (.invokevirtual 74, 3) := by decide +kernel
theorem dX9_town_29 : decode cX9_town 29 = .ok (.aload_n 0, 1) := by decide +kernel
theorem dX9_town_30 : decode cX9_town 30 = .ok (.getfield 29, 3) := by decide +kernel
theorem dX9_town_33 : decode cX9_town 33 = .ok (.aload_n 0, 1) := by decide +kernel
theorem dX9_town_34 : decode cX9_town 34 = .ok (.getfield 23, 3) := by decide +kernel
theorem dX9_town_37 : decode cX9_town 37 = .ok (.invokevirtual 78, 3) := by decide +kernel
theorem dX9_town_40 : decode cX9_town 40 = .ok (.aload_n 0, 1) := by decide +kernel
theorem dX9_town_41 : decode cX9_town 41 = .ok (.iconst 0, 1) := by decide +kernel
theorem dX9_town_42 : decode cX9_town 42 = .ok (.putfield 81, 3) := by decide +kernel
theorem dX9_town_45 : decode cX9_town 45 = .ok (.aload_n 0, 1) := by decide +kernel
theorem dX9_town_46 : decode cX9_town 46 = .ok (.getfield 54, 3) := by decide +kernel
theorem dX9_town_49 : decode cX9_town 49 = .ok (.iconst 0, 1) := by decide +kernel
theorem dX9_town_50 : decode cX9_town 50 = .ok (.putfield 84, 3) := by decide +kernel
theorem dX9_town_53 : decode cX9_town 53 = .ok (.aload_n 0, 1) := by decide +kernel
theorem dX9_town_54 : decode cX9_town 54 = .ok (.getfield 10, 3) := by decide +kernel
theorem dX9_town_57 : decode cX9_town 57 = .ok (.iconst 0, 1) := by decide +kernel
theorem dX9_town_58 : decode cX9_town 58 = .ok (.putfield 62, 3) := by decide +kernel
theorem dX9_town_61 : decode cX9_town 61 = .ok (.iload_n 1, 1) := by decide +kernel
theorem dX9_town_62 : decode cX9_town 62 = .ok (.ireturn, 1) := by decide +kernel
set_option maxRecDepth 20000 in
theorem ggX9_street_X9_isStreet : GoodIn wsX9_street wsX9_isStreet := goodIn_r _ [13, 1, 14, 15, 16, 12, 17, 47, 48, 49, 50, 51, 52, 53, 54, 55, 56, 57, 58, 59, 60, 61, 62, 63, 64, 65, 66, 67, 68, 69, 70, 71, 72, 73] (by decide +kernel) (by decide +kernel)
set_option maxRecDepth 20000 in
theorem gX9_street_X9_isStreet : GoodIn wsX9_street (wsV RX9 87 RX9 yX9_isStreet wsX9_isStreet) := goodIn_app (goodIn_of _ (by decide +kernel)) ggX9_street_X9_isStreet
set_option maxRecDepth 20000 in
theorem ggX9_street_X2_widthOf : GoodIn wsX9_street wsX2_widthOf := goodIn_r _ [22, 23, 24, 25, 26, 27, 21, 28, 29, 30, 31, 32, 77, 78, 79, 80, 81] (by decide +kernel) (by decide +kernel)
set_option maxRecDepth 20000 in
theorem gX9_street_X2_widthOf : GoodIn wsX9_street (wsV RX9 113 RX2 yX2_widthOf wsX2_widthOf) := goodIn_app (goodIn_of _ (by decide +kernel)) ggX9_street_X2_widthOf
set_option maxRecDepth 20000 in
theorem ggX9_street_X9_livingIn : GoodIn wsX9_street wsX9_livingIn := goodIn_r _ [36, 37, 38, 39, 12, 40, 1, 41, 4, 5, 42, 43, 44, 45, 46, 47, 48, 49, 50, 51, 52, 53, 54, 55, 56, 57, 58, 59, 60, 61, 62, 63, 64, 65, 66, 67, 68, 69, 70, 71, 72, 73, 74, 75, 76, 77, 78, 79, 80, 81] (by decide +kernel) (by decide +kernel)
set_option maxRecDepth 20000 in
theorem gX9_street_X9_livingIn : GoodIn wsX9_street (wsV RX9 117 RX9 yX9_livingIn wsX9_livingIn) := goodIn_app (goodIn_of _ (by decide +kernel)) ggX9_street_X9_livingIn
theorem dX9_street_0 : decode cX9_street 0 = .ok (.aload_n 0, 1) := by decide +kernel
theorem dX9_street_1 : decode cX9_street 1 = .ok (.iload_n 1, 1) := by decide +kernel
theorem dX9_street_2 : decode cX9_street 2 = .ok (.invokevirtual 87, 3) := by decide +kernel
theorem dX9_street_5 : decode cX9_street 5 = .ok (.ifCond .ne 5, 3) := by decide +kernel
theorem dX9_street_8 : decode cX9_street 8 = .ok (.iconst (-1), 1) := by decide +kernel
theorem dX9_street_9 : decode cX9_street 9 = .ok (.ireturn, 1) := by decide +kernel
theorem dX9_street_10 : decode cX9_street 10 = .ok (.iload_n 2, 1) := by decide +kernel
theorem dX9_street_11 : decode cX9_street 11 = .ok (.tableswitch 118 0 6 #[41, 51, 61, 74, 87, 100, 112], 41) := by decide +kernel
theorem dX9_street_52 : decode cX9_street 52 = .ok (.aload_n 0, 1) := by decide +kernel
theorem dX9_street_53 : decode cX9_street 53 = .ok (.getfield 23, 3) := by decide +kernel
theorem dX9_street_56 : decode cX9_street 56 = .ok (.getfield 91, 3) := by decide +kernel
theorem dX9_street_59 : decode cX9_street 59 = .ok (.iload_n 1, 1) := by decide +kernel
theorem dX9_street_60 : decode cX9_street 60 = .ok (.iaload, 1) := by decide +kernel
theorem dX9_street_61 : decode cX9_street 61 = .ok (.ireturn, 1) := by decide +kernel
theorem dX9_street_62 : decode cX9_street 62 = .ok (.aload_n 0, 1) := by decide +kernel
theorem dX9_street_63 : decode cX9_street 63 = .ok (.getfield 23, 3) := by decide +kernel
theorem dX9_street_66 : decode cX9_street 66 = .ok (.getfield 95, 3) := by decide +kernel
theorem dX9_street_69 : decode cX9_street 69 = .ok (.iload_n 1, 1) := by decide +kernel
theorem dX9_street_70 : decode cX9_street 70 = .ok (.iaload, 1) := by decide +kernel
theorem dX9_street_71 : decode cX9_street 71 = .ok (.ireturn, 1) := by decide +kernel
theorem dX9_street_72 : decode cX9_street 72 = .ok (.aload_n 0, 1) := by decide +kernel
theorem dX9_street_73 : decode cX9_street 73 = .ok (.getfield 29, 3) := by decide +kernel
theorem dX9_street_76 : decode cX9_street 76 = .ok (.getfield 98, 3) := by decide +kernel
theorem dX9_street_79 : decode cX9_street 79 = .ok (.getfield 102, 3) := by decide +kernel
theorem dX9_street_82 : decode cX9_street 82 = .ok (.iload_n 1, 1) := by decide +kernel
theorem dX9_street_83 : decode cX9_street 83 = .ok (.iaload, 1) := by decide +kernel
theorem dX9_street_84 : decode cX9_street 84 = .ok (.ireturn, 1) := by decide +kernel
theorem dX9_street_85 : decode cX9_street 85 = .ok (.aload_n 0, 1) := by decide +kernel
theorem dX9_street_86 : decode cX9_street 86 = .ok (.getfield 29, 3) := by decide +kernel
theorem dX9_street_89 : decode cX9_street 89 = .ok (.getfield 98, 3) := by decide +kernel
theorem dX9_street_92 : decode cX9_street 92 = .ok (.getfield 107, 3) := by decide +kernel
theorem dX9_street_95 : decode cX9_street 95 = .ok (.iload_n 1, 1) := by decide +kernel
theorem dX9_street_96 : decode cX9_street 96 = .ok (.iaload, 1) := by decide +kernel
theorem dX9_street_97 : decode cX9_street 97 = .ok (.ireturn, 1) := by decide +kernel
theorem dX9_street_98 : decode cX9_street 98 = .ok (.aload_n 0, 1) := by decide +kernel
theorem dX9_street_99 : decode cX9_street 99 = .ok (.getfield 29, 3) := by decide +kernel
theorem dX9_street_102 : decode cX9_street 102 = .ok (.getfield 98, 3) := by decide +kernel
theorem dX9_street_105 : decode cX9_street 105 = .ok (.getfield 110, 3) := by decide +kernel
theorem dX9_street_108 : decode cX9_street 108 = .ok (.iload_n 1, 1) := by decide +kernel
theorem dX9_street_109 : decode cX9_street 109 = .ok (.iaload, 1) := by decide +kernel
theorem dX9_street_110 : decode cX9_street 110 = .ok (.ireturn, 1) := by decide +kernel
theorem dX9_street_111 : decode cX9_street 111 = .ok (.aload_n 0, 1) := by decide +kernel
theorem dX9_street_112 : decode cX9_street 112 = .ok (.getfield 29, 3) := by decide +kernel
theorem dX9_street_115 : decode cX9_street 115 = .ok (.getfield 98, 3) := by decide +kernel
theorem dX9_street_118 : decode cX9_street 118 = .ok (.iload_n 1, 1) := by decide +kernel
theorem dX9_street_119 : decode cX9_street 119 = .ok (.invokevirtual 113, 3) := by decide +kernel
theorem dX9_street_122 : decode cX9_street 122 = .ok (.ireturn, 1) := by decide +kernel
theorem dX9_street_123 : decode cX9_street 123 = .ok (.aload_n 0, 1) := by decide +kernel
theorem dX9_street_124 : decode cX9_street 124 = .ok (.iload_n 1, 1) := by decide +kernel
theorem dX9_street_125 : decode cX9_street 125 = .ok (.invokevirtual 117, 3) := by decide +kernel
theorem dX9_street_128 : decode cX9_street 128 = .ok (.ireturn, 1) := by decide +kernel
theorem dX9_street_129 : decode cX9_street 129 = .ok (.iconst (-1), 1) := by decide +kernel
theorem dX9_street_130 : decode cX9_street 130 = .ok (.ireturn, 1) := by decide +kernel
set_option maxRecDepth 20000 in
theorem ggX9_citizen_X9_isCitizen : GoodIn wsX9_citizen wsX9_isCitizen := goodIn_r _ [10, 4, 11, 12, 13, 9, 14, 45, 46, 47, 48, 49, 50, 51, 52, 53, 54, 63, 64, 65, 66, 67, 68, 69, 70, 71, 72, 73, 74, 75, 76, 77, 78, 79] (by decide +kernel) (by decide +kernel)
set_option maxRecDepth 20000 in
theorem gX9_citizen_X9_isCitizen : GoodIn wsX9_citizen (wsV RX9 120 RX9 yX9_isCitizen wsX9_isCitizen) := goodIn_app (goodIn_of _ (by decide +kernel)) ggX9_citizen_X9_isCitizen
set_option maxRecDepth 20000 in
theorem ggX9_citizen_X9_witnessesOf : GoodIn wsX9_citizen wsX9_witnessesOf := goodIn_r _ [18, 1, 2, 3, 19, 20, 21, 9, 22, 4, 23, 24, 25, 26, 27, 28, 29, 30, 31, 32, 33, 34, 35, 36, 37, 11, 38, 39, 40, 41, 42, 43, 44, 45, 46, 47, 48, 49, 50, 51, 52, 53, 54, 55, 56, 57, 58, 59, 60, 61, 62, 63, 64, 65, 66, 67, 68, 69, 70, 71, 72, 73, 74, 75, 76, 77, 78, 79] (by decide +kernel) (by decide +kernel)
set_option maxRecDepth 20000 in
theorem gX9_citizen_X9_witnessesOf : GoodIn wsX9_citizen (wsV RX9 129 RX9 yX9_witnessesOf wsX9_witnessesOf) := goodIn_app (goodIn_of _ (by decide +kernel)) ggX9_citizen_X9_witnessesOf
theorem dX9_citizen_0 : decode cX9_citizen 0 = .ok (.aload_n 0, 1) := by decide +kernel
theorem dX9_citizen_1 : decode cX9_citizen 1 = .ok (.iload_n 1, 1) := by decide +kernel
theorem dX9_citizen_2 : decode cX9_citizen 2 = .ok (.invokevirtual 120, 3) := by decide +kernel
theorem dX9_citizen_5 : decode cX9_citizen 5 = .ok (.ifCond .ne 5, 3) := by decide +kernel
theorem dX9_citizen_8 : decode cX9_citizen 8 = .ok (.iconst (-1), 1) := by decide +kernel
theorem dX9_citizen_9 : decode cX9_citizen 9 = .ok (.ireturn, 1) := by decide +kernel
theorem dX9_citizen_10 : decode cX9_citizen 10 = .ok (.iload_n 2, 1) := by decide +kernel
theorem dX9_citizen_11 : decode cX9_citizen 11 = .ok (.tableswitch 54 0 2 #[25, 38, 48], 25) := by decide +kernel
theorem dX9_citizen_36 : decode cX9_citizen 36 = .ok (.aload_n 0, 1) := by decide +kernel
theorem dX9_citizen_37 : decode cX9_citizen 37 = .ok (.getfield 29, 3) := by decide +kernel
theorem dX9_citizen_40 : decode cX9_citizen 40 = .ok (.getfield 98, 3) := by decide +kernel
theorem dX9_citizen_43 : decode cX9_citizen 43 = .ok (.getfield 123, 3) := by decide +kernel
theorem dX9_citizen_46 : decode cX9_citizen 46 = .ok (.iload_n 1, 1) := by decide +kernel
theorem dX9_citizen_47 : decode cX9_citizen 47 = .ok (.iaload, 1) := by decide +kernel
theorem dX9_citizen_48 : decode cX9_citizen 48 = .ok (.ireturn, 1) := by decide +kernel
theorem dX9_citizen_49 : decode cX9_citizen 49 = .ok (.aload_n 0, 1) := by decide +kernel
theorem dX9_citizen_50 : decode cX9_citizen 50 = .ok (.getfield 23, 3) := by decide +kernel
theorem dX9_citizen_53 : decode cX9_citizen 53 = .ok (.getfield 126, 3) := by decide +kernel
theorem dX9_citizen_56 : decode cX9_citizen 56 = .ok (.iload_n 1, 1) := by decide +kernel
theorem dX9_citizen_57 : decode cX9_citizen 57 = .ok (.iaload, 1) := by decide +kernel
theorem dX9_citizen_58 : decode cX9_citizen 58 = .ok (.ireturn, 1) := by decide +kernel
theorem dX9_citizen_59 : decode cX9_citizen 59 = .ok (.aload_n 0, 1) := by decide +kernel
theorem dX9_citizen_60 : decode cX9_citizen 60 = .ok (.iload_n 1, 1) := by decide +kernel
theorem dX9_citizen_61 : decode cX9_citizen 61 = .ok (.invokevirtual 129, 3) := by decide +kernel
theorem dX9_citizen_64 : decode cX9_citizen 64 = .ok (.ireturn, 1) := by decide +kernel
theorem dX9_citizen_65 : decode cX9_citizen 65 = .ok (.iconst (-1), 1) := by decide +kernel
theorem dX9_citizen_66 : decode cX9_citizen 66 = .ok (.ireturn, 1) := by decide +kernel
set_option maxRecDepth 20000 in
theorem ggX9_does_X9_isCitizen : GoodIn wsX9_does wsX9_isCitizen := goodIn_r _ [11, 12, 13, 14, 15, 10, 16, 95, 96, 97, 98, 99, 100, 101, 102, 103, 104, 113, 114, 115, 116, 117, 118, 119, 120, 121, 122, 123, 124, 125, 126, 127, 128, 129] (by decide +kernel) (by decide +kernel)
set_option maxRecDepth 20000 in
theorem gX9_does_X9_isCitizen : GoodIn wsX9_does (wsV RX9 120 RX9 yX9_isCitizen wsX9_isCitizen) := goodIn_app (goodIn_of _ (by decide +kernel)) ggX9_does_X9_isCitizen
set_option maxRecDepth 20000 in
theorem ggX9_does_X9_isWithin : GoodIn wsX9_does wsX9_isWithin := goodIn_r _ [16] (by decide +kernel) (by decide +kernel)
set_option maxRecDepth 20000 in
theorem gX9_does_X9_isWithin : GoodIn wsX9_does (va_wsS RX9 58 yX9_isWithin wsX9_isWithin) := goodIn_app (goodIn_of _ (by decide +kernel)) ggX9_does_X9_isWithin
set_option maxRecDepth 20000 in
theorem ggX9_does_X3_remember : GoodIn wsX9_does wsX3_remember := goodIn_r _ [21, 22, 23, 24, 25, 26, 27, 20, 28, 29, 30, 31, 32, 33, 34, 35, 36, 37, 38, 39, 40, 41, 42, 105, 106, 107, 108, 109, 110, 111, 112] (by decide +kernel) (by decide +kernel)
set_option maxRecDepth 20000 in
theorem gX9_does_X3_remember : GoodIn wsX9_does (wsV RX9 132 RX3 yX3_remember wsX3_remember) := goodIn_app (goodIn_of _ (by decide +kernel)) ggX9_does_X3_remember
set_option maxRecDepth 20000 in
theorem ggX9_does_X9_witnessesOf : GoodIn wsX9_does wsX9_witnessesOf := goodIn_r _ [46, 1, 2, 3, 47, 48, 49, 10, 50, 12, 51, 52, 53, 54, 55, 56, 57, 58, 59, 60, 61, 62, 63, 64, 65, 13, 66, 67, 68, 69, 70, 71, 72, 95, 96, 97, 98, 99, 100, 101, 102, 103, 104, 105, 106, 107, 108, 109, 110, 111, 112, 113, 114, 115, 116, 117, 118, 119, 120, 121, 122, 123, 124, 125, 126, 127, 128, 129] (by decide +kernel) (by decide +kernel)
set_option maxRecDepth 20000 in
theorem gX9_does_X9_witnessesOf : GoodIn wsX9_does (wsV RX9 129 RX9 yX9_witnessesOf wsX9_witnessesOf) := goodIn_app (goodIn_of _ (by decide +kernel)) ggX9_does_X9_witnessesOf
set_option maxRecDepth 20000 in
theorem ggX9_does_J6_bitCount_0f7a4 : GoodIn wsX9_does wsJ6_bitCount_0f7a4 := goodIn_r _ [76, 77, 78, 79] (by decide +kernel) (by decide +kernel)
set_option maxRecDepth 20000 in
theorem gX9_does_J6_bitCount_0f7a4 : GoodIn wsX9_does (va_wsS RX9 135 yJ6_bitCount_0f7a4 wsJ6_bitCount_0f7a4) := goodIn_app (goodIn_of _ (by decide +kernel)) ggX9_does_J6_bitCount_0f7a4
set_option maxRecDepth 20000 in
theorem ggX9_does_X9_raise : GoodIn wsX9_does wsX9_raise := goodIn_r _ [82, 83, 84, 85, 86] (by decide +kernel) (by decide +kernel)
set_option maxRecDepth 20000 in
theorem gX9_does_X9_raise : GoodIn wsX9_does (va_wsS RX9 140 yX9_raise wsX9_raise) := goodIn_app (goodIn_of _ (by decide +kernel)) ggX9_does_X9_raise
set_option maxRecDepth 20000 in
theorem ggX9_does_X2_widthOf : GoodIn wsX9_does wsX2_widthOf := goodIn_r _ [90, 34, 40, 42, 91, 92, 32, 93, 94, 84, 85, 86, 108, 109, 110, 111, 112] (by decide +kernel) (by decide +kernel)
set_option maxRecDepth 20000 in
theorem gX9_does_X2_widthOf : GoodIn wsX9_does (wsV RX9 113 RX2 yX2_widthOf wsX2_widthOf) := goodIn_app (goodIn_of _ (by decide +kernel)) ggX9_does_X2_widthOf
theorem dX9_does_0 : decode cX9_does 0 = .ok (.aload_n 0, 1) := by decide +kernel
theorem dX9_does_1 : decode cX9_does 1 = .ok (.iload_n 1, 1) := by decide +kernel
theorem dX9_does_2 : decode cX9_does 2 = .ok (.invokevirtual 120, 3) := by decide +kernel
theorem dX9_does_5 : decode cX9_does 5 = .ok (.ifCond .eq 22, 3) := by decide +kernel
theorem dX9_does_8 : decode cX9_does 8 = .ok (.iload_n 2, 1) := by decide +kernel
theorem dX9_does_9 : decode cX9_does 9 = .ok (.iconst 1, 1) := by decide +kernel
theorem dX9_does_10 : decode cX9_does 10 = .ok (.bipush 9, 2) := by decide +kernel
theorem dX9_does_12 : decode cX9_does 12 = .ok (.invokestatic 58, 3) := by decide +kernel
theorem dX9_does_15 : decode cX9_does 15 = .ok (.ifCond .eq 12, 3) := by decide +kernel
theorem dX9_does_18 : decode cX9_does 18 = .ok (.iload_n 3, 1) := by decide +kernel
theorem dX9_does_19 : decode cX9_does 19 = .ok (.iconst 0, 1) := by decide +kernel
theorem dX9_does_20 : decode cX9_does 20 = .ok (.iconst 1, 1) := by decide +kernel
theorem dX9_does_21 : decode cX9_does 21 = .ok (.invokestatic 58, 3) := by decide +kernel
theorem dX9_does_24 : decode cX9_does 24 = .ok (.ifCond .ne 5, 3) := by decide +kernel
theorem dX9_does_27 : decode cX9_does 27 = .ok (.iconst (-1), 1) := by decide +kernel
theorem dX9_does_28 : decode cX9_does 28 = .ok (.ireturn, 1) := by decide +kernel
theorem dX9_does_29 : decode cX9_does 29 = .ok (.aload_n 0, 1) := by decide +kernel
theorem dX9_does_30 : decode cX9_does 30 = .ok (.getfield 29, 3) := by decide +kernel
theorem dX9_does_33 : decode cX9_does 33 = .ok (.invokevirtual 132, 3) := by decide +kernel
theorem dX9_does_36 : decode cX9_does 36 = .ok (.aload_n 0, 1) := by decide +kernel
theorem dX9_does_37 : decode cX9_does 37 = .ok (.getfield 29, 3) := by decide +kernel
theorem dX9_does_40 : decode cX9_does 40 = .ok (.getfield 98, 3) := by decide +kernel
theorem dX9_does_43 : decode cX9_does 43 = .ok (.getfield 123, 3) := by decide +kernel
theorem dX9_does_46 : decode cX9_does 46 = .ok (.iload_n 1, 1) := by decide +kernel
theorem dX9_does_47 : decode cX9_does 47 = .ok (.iaload, 1) := by decide +kernel
theorem dX9_does_48 : decode cX9_does 48 = .ok (.istore 4, 2) := by decide +kernel
theorem dX9_does_50 : decode cX9_does 50 = .ok (.iload_n 3, 1) := by decide +kernel
theorem dX9_does_51 : decode cX9_does 51 = .ok (.ifCond .ne 7, 3) := by decide +kernel
theorem dX9_does_54 : decode cX9_does 54 = .ok (.iconst 1, 1) := by decide +kernel
theorem dX9_does_55 : decode cX9_does 55 = .ok (.goto 4, 3) := by decide +kernel
theorem dX9_does_58 : decode cX9_does 58 = .ok (.iconst 0, 1) := by decide +kernel
theorem dX9_does_59 : decode cX9_does 59 = .ok (.istore 5, 2) := by decide +kernel
theorem dX9_does_61 : decode cX9_does 61 = .ok (.aload_n 0, 1) := by decide +kernel
theorem dX9_does_62 : decode cX9_does 62 = .ok (.iload_n 1, 1) := by decide +kernel
theorem dX9_does_63 : decode cX9_does 63 = .ok (.invokevirtual 129, 3) := by decide +kernel
theorem dX9_does_66 : decode cX9_does 66 = .ok (.invokestatic 135, 3) := by decide +kernel
theorem dX9_does_69 : decode cX9_does 69 = .ok (.iconst 2, 1) := by decide +kernel
theorem dX9_does_70 : decode cX9_does 70 = .ok (.if_icmp .lt 40, 3) := by decide +kernel
theorem dX9_does_73 : decode cX9_does 73 = .ok (.iload 5, 2) := by decide +kernel
theorem dX9_does_75 : decode cX9_does 75 = .ok (.ifCond .eq 16, 3) := by decide +kernel
theorem dX9_does_78 : decode cX9_does 78 = .ok (.aload_n 0, 1) := by decide +kernel
theorem dX9_does_79 : decode cX9_does 79 = .ok (.getfield 29, 3) := by decide +kernel
theorem dX9_does_82 : decode cX9_does 82 = .ok (.getfield 98, 3) := by decide +kernel
theorem dX9_does_85 : decode cX9_does 85 = .ok (.getfield 102, 3) := by decide +kernel
theorem dX9_does_88 : decode cX9_does 88 = .ok (.goto 13, 3) := by decide +kernel
theorem dX9_does_91 : decode cX9_does 91 = .ok (.aload_n 0, 1) := by decide +kernel
theorem dX9_does_92 : decode cX9_does 92 = .ok (.getfield 29, 3) := by decide +kernel
theorem dX9_does_95 : decode cX9_does 95 = .ok (.getfield 98, 3) := by decide +kernel
theorem dX9_does_98 : decode cX9_does 98 = .ok (.getfield 110, 3) := by decide +kernel
theorem dX9_does_101 : decode cX9_does 101 = .ok (.iload 4, 2) := by decide +kernel
theorem dX9_does_103 : decode cX9_does 103 = .ok (.iload_n 2, 1) := by decide +kernel
theorem dX9_does_104 : decode cX9_does 104 = .ok (.invokestatic 140, 3) := by decide +kernel
theorem dX9_does_107 : decode cX9_does 107 = .ok (.goto 24, 3) := by decide +kernel
theorem dX9_does_110 : decode cX9_does 110 = .ok (.iload 5, 2) := by decide +kernel
theorem dX9_does_112 : decode cX9_does 112 = .ok (.ifCond .eq 19, 3) := by decide +kernel
theorem dX9_does_115 : decode cX9_does 115 = .ok (.aload_n 0, 1) := by decide +kernel
theorem dX9_does_116 : decode cX9_does 116 = .ok (.getfield 29, 3) := by decide +kernel
theorem dX9_does_119 : decode cX9_does 119 = .ok (.getfield 98, 3) := by decide +kernel
theorem dX9_does_122 : decode cX9_does 122 = .ok (.getfield 107, 3) := by decide +kernel
theorem dX9_does_125 : decode cX9_does 125 = .ok (.iload 4, 2) := by decide +kernel
theorem dX9_does_127 : decode cX9_does 127 = .ok (.iload_n 2, 1) := by decide +kernel
theorem dX9_does_128 : decode cX9_does 128 = .ok (.invokestatic 140, 3) := by decide +kernel
theorem dX9_does_131 : decode cX9_does 131 = .ok (.aload_n 0, 1) := by decide +kernel
theorem dX9_does_132 : decode cX9_does 132 = .ok (.getfield 29, 3) := by decide +kernel
theorem dX9_does_135 : decode cX9_does 135 = .ok (.getfield 98, 3) := by decide +kernel
theorem dX9_does_138 : decode cX9_does 138 = .ok (.iload 4, 2) := by decide +kernel
theorem dX9_does_140 : decode cX9_does 140 = .ok (.invokevirtual 113, 3) := by decide +kernel
theorem dX9_does_143 : decode cX9_does 143 = .ok (.ireturn, 1) := by decide +kernel
set_option maxRecDepth 20000 in
theorem ggX9_wills_X9_isStreet : GoodIn wsX9_wills wsX9_isStreet := goodIn_r _ [9, 10, 11, 12, 13, 8, 14, 48, 49, 50, 51, 52, 53, 54, 55, 56, 57, 66, 67, 68, 69, 70, 71, 72, 73, 74, 75, 76, 77, 78, 79, 80, 81, 82] (by decide +kernel) (by decide +kernel)
set_option maxRecDepth 20000 in
theorem gX9_wills_X9_isStreet : GoodIn wsX9_wills (wsV RX9 87 RX9 yX9_isStreet wsX9_isStreet) := goodIn_app (goodIn_of _ (by decide +kernel)) ggX9_wills_X9_isStreet
set_option maxRecDepth 20000 in
theorem ggX9_wills_X3_remember : GoodIn wsX9_wills wsX3_remember := goodIn_r _ [19, 20, 21, 22, 23, 24, 25, 18, 26, 27, 28, 29, 30, 31, 32, 33, 34, 35, 36, 37, 38, 39, 40, 58, 59, 60, 61, 62, 63, 64, 65] (by decide +kernel) (by decide +kernel)
set_option maxRecDepth 20000 in
theorem gX9_wills_X3_remember : GoodIn wsX9_wills (wsV RX9 132 RX3 yX3_remember wsX3_remember) := goodIn_app (goodIn_of _ (by decide +kernel)) ggX9_wills_X3_remember
set_option maxRecDepth 20000 in
theorem ggX9_wills_X9_raise : GoodIn wsX9_wills wsX9_raise := goodIn_r _ [43, 44, 45, 46, 47] (by decide +kernel) (by decide +kernel)
set_option maxRecDepth 20000 in
theorem gX9_wills_X9_raise : GoodIn wsX9_wills (va_wsS RX9 140 yX9_raise wsX9_raise) := goodIn_app (goodIn_of _ (by decide +kernel)) ggX9_wills_X9_raise
theorem dX9_wills_0 : decode cX9_wills 0 = .ok (.aload_n 0, 1) := by decide +kernel
theorem dX9_wills_1 : decode cX9_wills 1 = .ok (.iload_n 1, 1) := by decide +kernel
theorem dX9_wills_2 : decode cX9_wills 2 = .ok (.invokevirtual 87, 3) := by decide +kernel
theorem dX9_wills_5 : decode cX9_wills 5 = .ok (.ifCond .ne 5, 3) := by decide +kernel
theorem dX9_wills_8 : decode cX9_wills 8 = .ok (.iconst (-1), 1) := by decide +kernel
theorem dX9_wills_9 : decode cX9_wills 9 = .ok (.ireturn, 1) := by decide +kernel
theorem dX9_wills_10 : decode cX9_wills 10 = .ok (.aload_n 0, 1) := by decide +kernel
theorem dX9_wills_11 : decode cX9_wills 11 = .ok (.getfield 29, 3) := by decide +kernel
theorem dX9_wills_14 : decode cX9_wills 14 = .ok (.getfield 98, 3) := by decide +kernel
theorem dX9_wills_17 : decode cX9_wills 17 = .ok (.getfield 107, 3) := by decide +kernel
theorem dX9_wills_20 : decode cX9_wills 20 = .ok (.iload_n 1, 1) := by decide +kernel
theorem dX9_wills_21 : decode cX9_wills 21 = .ok (.iaload, 1) := by decide +kernel
theorem dX9_wills_22 : decode cX9_wills 22 = .ok (.istore_n 2, 1) := by decide +kernel
theorem dX9_wills_23 : decode cX9_wills 23 = .ok (.iload_n 2, 1) := by decide +kernel
theorem dX9_wills_24 : decode cX9_wills 24 = .ok (.ifCond .ne 6, 3) := by decide +kernel
theorem dX9_wills_27 : decode cX9_wills 27 = .ok (.bipush (-2), 2) := by decide +kernel
theorem dX9_wills_29 : decode cX9_wills 29 = .ok (.ireturn, 1) := by decide +kernel
theorem dX9_wills_30 : decode cX9_wills 30 = .ok (.aload_n 0, 1) := by decide +kernel
theorem dX9_wills_31 : decode cX9_wills 31 = .ok (.getfield 29, 3) := by decide +kernel
theorem dX9_wills_34 : decode cX9_wills 34 = .ok (.invokevirtual 132, 3) := by decide +kernel
theorem dX9_wills_37 : decode cX9_wills 37 = .ok (.aload_n 0, 1) := by decide +kernel
theorem dX9_wills_38 : decode cX9_wills 38 = .ok (.getfield 29, 3) := by decide +kernel
theorem dX9_wills_41 : decode cX9_wills 41 = .ok (.getfield 98, 3) := by decide +kernel
theorem dX9_wills_44 : decode cX9_wills 44 = .ok (.getfield 102, 3) := by decide +kernel
theorem dX9_wills_47 : decode cX9_wills 47 = .ok (.iload_n 1, 1) := by decide +kernel
theorem dX9_wills_48 : decode cX9_wills 48 = .ok (.iload_n 2, 1) := by decide +kernel
theorem dX9_wills_49 : decode cX9_wills 49 = .ok (.invokestatic 140, 3) := by decide +kernel
theorem dX9_wills_52 : decode cX9_wills 52 = .ok (.aload_n 0, 1) := by decide +kernel
theorem dX9_wills_53 : decode cX9_wills 53 = .ok (.getfield 29, 3) := by decide +kernel
theorem dX9_wills_56 : decode cX9_wills 56 = .ok (.getfield 98, 3) := by decide +kernel
theorem dX9_wills_59 : decode cX9_wills 59 = .ok (.getfield 107, 3) := by decide +kernel
theorem dX9_wills_62 : decode cX9_wills 62 = .ok (.iload_n 1, 1) := by decide +kernel
theorem dX9_wills_63 : decode cX9_wills 63 = .ok (.iconst 0, 1) := by decide +kernel
theorem dX9_wills_64 : decode cX9_wills 64 = .ok (.iastore, 1) := by decide +kernel
theorem dX9_wills_65 : decode cX9_wills 65 = .ok (.iload_n 2, 1) := by decide +kernel
theorem dX9_wills_66 : decode cX9_wills 66 = .ok (.ireturn, 1) := by decide +kernel
set_option maxRecDepth 20000 in
theorem ggX9_moves_X9_isCitizen : GoodIn wsX9_moves wsX9_isCitizen := goodIn_r _ [8, 9, 10, 11, 12, 7, 13, 45, 46, 47, 48, 49, 50, 51, 52, 53, 54, 63, 64, 65, 66, 67, 68, 69, 70, 71, 72, 73, 74, 75, 76, 77, 78, 79] (by decide +kernel) (by decide +kernel)
set_option maxRecDepth 20000 in
theorem gX9_moves_X9_isCitizen : GoodIn wsX9_moves (wsV RX9 120 RX9 yX9_isCitizen wsX9_isCitizen) := goodIn_app (goodIn_of _ (by decide +kernel)) ggX9_moves_X9_isCitizen
set_option maxRecDepth 20000 in
theorem ggX9_moves_X9_isStreet : GoodIn wsX9_moves wsX9_isStreet := goodIn_r _ [17, 9, 18, 11, 12, 7, 13, 45, 46, 47, 48, 49, 50, 51, 52, 53, 54, 63, 64, 65, 66, 67, 68, 69, 70, 71, 72, 73, 74, 75, 76, 77, 78, 79] (by decide +kernel) (by decide +kernel)
set_option maxRecDepth 20000 in
theorem gX9_moves_X9_isStreet : GoodIn wsX9_moves (wsV RX9 87 RX9 yX9_isStreet wsX9_isStreet) := goodIn_app (goodIn_of _ (by decide +kernel)) ggX9_moves_X9_isStreet
set_option maxRecDepth 20000 in
theorem ggX9_moves_X3_remember : GoodIn wsX9_moves wsX3_remember := goodIn_r _ [23, 24, 25, 26, 27, 28, 29, 22, 30, 31, 32, 33, 34, 35, 36, 37, 38, 39, 40, 41, 42, 43, 44, 55, 56, 57, 58, 59, 60, 61, 62] (by decide +kernel) (by decide +kernel)
set_option maxRecDepth 20000 in
theorem gX9_moves_X3_remember : GoodIn wsX9_moves (wsV RX9 132 RX3 yX3_remember wsX3_remember) := goodIn_app (goodIn_of _ (by decide +kernel)) ggX9_moves_X3_remember
theorem dX9_moves_0 : decode cX9_moves 0 = .ok (.aload_n 0, 1) := by decide +kernel
theorem dX9_moves_1 : decode cX9_moves 1 = .ok (.iload_n 1, 1) := by decide +kernel
theorem dX9_moves_2 : decode cX9_moves 2 = .ok (.invokevirtual 120, 3) := by decide +kernel
theorem dX9_moves_5 : decode cX9_moves 5 = .ok (.ifCond .eq 11, 3) := by decide +kernel
theorem dX9_moves_8 : decode cX9_moves 8 = .ok (.aload_n 0, 1) := by decide +kernel
theorem dX9_moves_9 : decode cX9_moves 9 = .ok (.iload_n 2, 1) := by decide +kernel
theorem dX9_moves_10 : decode cX9_moves 10 = .ok (.invokevirtual 87, 3) := by decide +kernel
theorem dX9_moves_13 : decode cX9_moves 13 = .ok (.ifCond .ne 5, 3) := by decide +kernel
theorem dX9_moves_16 : decode cX9_moves 16 = .ok (.iconst (-1), 1) := by decide +kernel
theorem dX9_moves_17 : decode cX9_moves 17 = .ok (.ireturn, 1) := by decide +kernel
theorem dX9_moves_18 : decode cX9_moves 18 = .ok (.aload_n 0, 1) := by decide +kernel
theorem dX9_moves_19 : decode cX9_moves 19 = .ok (.getfield 29, 3) := by decide +kernel
theorem dX9_moves_22 : decode cX9_moves 22 = .ok (.getfield 98, 3) := by decide +kernel
theorem dX9_moves_25 : decode cX9_moves 25 = .ok (.getfield 123, 3) := by decide +kernel
theorem dX9_moves_28 : decode cX9_moves 28 = .ok (.iload_n 1, 1) := by decide +kernel
theorem dX9_moves_29 : decode cX9_moves 29 = .ok (.iaload, 1) := by decide +kernel
theorem dX9_moves_30 : decode cX9_moves 30 = .ok (.istore_n 3, 1) := by decide +kernel
theorem dX9_moves_31 : decode cX9_moves 31 = .ok (.iload_n 3, 1) := by decide +kernel
theorem dX9_moves_32 : decode cX9_moves 32 = .ok (.iload_n 2, 1) := by decide +kernel
theorem dX9_moves_33 : decode cX9_moves 33 = .ok (.if_icmp .ne 6, 3) := by decide +kernel
theorem dX9_moves_36 : decode cX9_moves 36 = .ok (.bipush (-2), 2) := by decide +kernel
theorem dX9_moves_38 : decode cX9_moves 38 = .ok (.ireturn, 1) := by decide +kernel
theorem dX9_moves_39 : decode cX9_moves 39 = .ok (.aload_n 0, 1) := by decide +kernel
theorem dX9_moves_40 : decode cX9_moves 40 = .ok (.getfield 29, 3) := by decide +kernel
theorem dX9_moves_43 : decode cX9_moves 43 = .ok (.invokevirtual 132, 3) := by decide +kernel
theorem dX9_moves_46 : decode cX9_moves 46 = .ok (.aload_n 0, 1) := by decide +kernel
theorem dX9_moves_47 : decode cX9_moves 47 = .ok (.getfield 29, 3) := by decide +kernel
theorem dX9_moves_50 : decode cX9_moves 50 = .ok (.getfield 98, 3) := by decide +kernel
theorem dX9_moves_53 : decode cX9_moves 53 = .ok (.getfield 123, 3) := by decide +kernel
theorem dX9_moves_56 : decode cX9_moves 56 = .ok (.iload_n 1, 1) := by decide +kernel
theorem dX9_moves_57 : decode cX9_moves 57 = .ok (.iload_n 2, 1) := by decide +kernel
theorem dX9_moves_58 : decode cX9_moves 58 = .ok (.iastore, 1) := by decide +kernel
theorem dX9_moves_59 : decode cX9_moves 59 = .ok (.iload_n 3, 1) := by decide +kernel
theorem dX9_moves_60 : decode cX9_moves 60 = .ok (.ireturn, 1) := by decide +kernel
set_option maxRecDepth 20000 in
theorem ggX9_night_X9_isWithin : GoodIn wsX9_night wsX9_isWithin := goodIn_r _ [7] (by decide +kernel) (by decide +kernel)
set_option maxRecDepth 20000 in
theorem gX9_night_X9_isWithin : GoodIn wsX9_night (va_wsS RX9 58 yX9_isWithin wsX9_isWithin) := goodIn_app (goodIn_of _ (by decide +kernel)) ggX9_night_X9_isWithin
set_option maxRecDepth 20000 in
theorem ggX9_night_X3_remember : GoodIn wsX9_night wsX3_remember := goodIn_r _ [12, 13, 14, 15, 16, 17, 18, 11, 19, 20, 21, 22, 23, 24, 25, 26, 27, 28, 29, 30, 31, 32, 33, 61, 62, 63, 64, 65, 66, 67, 68] (by decide +kernel) (by decide +kernel)
set_option maxRecDepth 20000 in
theorem gX9_night_X3_remember : GoodIn wsX9_night (wsV RX9 132 RX3 yX3_remember wsX3_remember) := goodIn_app (goodIn_of _ (by decide +kernel)) ggX9_night_X3_remember
set_option maxRecDepth 20000 in
theorem ggX9_night_X9_widthsTogether : GoodIn wsX9_night wsX9_widthsTogether := goodIn_r _ [37, 38, 39, 1, 2, 40, 41, 42, 23, 43, 25, 31, 33, 44, 45, 46, 47, 48, 49, 50, 51, 52, 53, 54, 55, 56, 57, 58, 59, 60, 69, 70, 71, 72, 73, 74, 75, 76, 77, 78, 79, 80, 81, 82, 83, 84, 85, 61, 62, 63, 64, 65, 66, 67, 68] (by decide +kernel) (by decide +kernel)
set_option maxRecDepth 20000 in
theorem gX9_night_X9_widthsTogether : GoodIn wsX9_night (wsV RX9 147 RX9 yX9_widthsTogether wsX9_widthsTogether) := goodIn_app (goodIn_of _ (by decide +kernel)) ggX9_night_X9_widthsTogether
theorem dX9_night_0 : decode cX9_night 0 = .ok (.iload_n 1, 1) := by decide +kernel
theorem dX9_night_1 : decode cX9_night 1 = .ok (.iconst 0, 1) := by decide +kernel
theorem dX9_night_2 : decode cX9_night 2 = .ok (.iconst 1, 1) := by decide +kernel
theorem dX9_night_3 : decode cX9_night 3 = .ok (.invokestatic 58, 3) := by decide +kernel
theorem dX9_night_6 : decode cX9_night 6 = .ok (.ifCond .ne 5, 3) := by decide +kernel
theorem dX9_night_9 : decode cX9_night 9 = .ok (.iconst (-1), 1) := by decide +kernel
theorem dX9_night_10 : decode cX9_night 10 = .ok (.ireturn, 1) := by decide +kernel
theorem dX9_night_11 : decode cX9_night 11 = .ok (.aload_n 0, 1) := by decide +kernel
theorem dX9_night_12 : decode cX9_night 12 = .ok (.getfield 29, 3) := by decide +kernel
theorem dX9_night_15 : decode cX9_night 15 = .ok (.getfield 98, 3) := by decide +kernel
theorem dX9_night_18 : decode cX9_night 18 = .ok (.getfield 144, 3) := by decide +kernel
theorem dX9_night_21 : decode cX9_night 21 = .ok (.iload_n 1, 1) := by decide +kernel
theorem dX9_night_22 : decode cX9_night 22 = .ok (.if_icmp .ne 6, 3) := by decide +kernel
theorem dX9_night_25 : decode cX9_night 25 = .ok (.bipush (-2), 2) := by decide +kernel
theorem dX9_night_27 : decode cX9_night 27 = .ok (.ireturn, 1) := by decide +kernel
theorem dX9_night_28 : decode cX9_night 28 = .ok (.aload_n 0, 1) := by decide +kernel
theorem dX9_night_29 : decode cX9_night 29 = .ok (.getfield 29, 3) := by decide +kernel
theorem dX9_night_32 : decode cX9_night 32 = .ok (.invokevirtual 132, 3) := by decide +kernel
theorem dX9_night_35 : decode cX9_night 35 = .ok (.aload_n 0, 1) := by decide +kernel
theorem dX9_night_36 : decode cX9_night 36 = .ok (.getfield 29, 3) := by decide +kernel
theorem dX9_night_39 : decode cX9_night 39 = .ok (.getfield 98, 3) := by decide +kernel
theorem dX9_night_42 : decode cX9_night 42 = .ok (.iload_n 1, 1) := by decide +kernel
theorem dX9_night_43 : decode cX9_night 43 = .ok (.putfield 144, 3) := by decide +kernel
theorem dX9_night_46 : decode cX9_night 46 = .ok (.aload_n 0, 1) := by decide +kernel
theorem dX9_night_47 : decode cX9_night 47 = .ok (.invokevirtual 147, 3) := by decide +kernel
theorem dX9_night_50 : decode cX9_night 50 = .ok (.ireturn, 1) := by decide +kernel
set_option maxRecDepth 20000 in
theorem ggX9_undo_X3_recall : GoodIn wsX9_undo wsX3_recall := goodIn_r _ [7, 8, 9, 10, 11, 12, 13, 14, 15, 16, 17, 18, 19, 20, 21, 22, 23, 24, 35, 36, 37, 38, 39, 40, 41, 42] (by decide +kernel) (by decide +kernel)
set_option maxRecDepth 20000 in
theorem gX9_undo_X3_recall : GoodIn wsX9_undo (wsV RX9 154 RX3 yX3_recall wsX3_recall) := goodIn_app (goodIn_of _ (by decide +kernel)) ggX9_undo_X3_recall
theorem dX9_undo_0 : decode cX9_undo 0 = .ok (.aload_n 0, 1) := by decide +kernel
theorem dX9_undo_1 : decode cX9_undo 1 = .ok (.getfield 29, 3) := by decide +kernel
theorem dX9_undo_4 : decode cX9_undo 4 = .ok (.getfield 151, 3) := by decide +kernel
theorem dX9_undo_7 : decode cX9_undo 7 = .ok (.ifCond .ne 6, 3) := by decide +kernel
theorem dX9_undo_10 : decode cX9_undo 10 = .ok (.bipush (-2), 2) := by decide +kernel
theorem dX9_undo_12 : decode cX9_undo 12 = .ok (.ireturn, 1) := by decide +kernel
theorem dX9_undo_13 : decode cX9_undo 13 = .ok (.aload_n 0, 1) := by decide +kernel
theorem dX9_undo_14 : decode cX9_undo 14 = .ok (.getfield 29, 3) := by decide +kernel
theorem dX9_undo_17 : decode cX9_undo 17 = .ok (.invokevirtual 154, 3) := by decide +kernel
theorem dX9_undo_20 : decode cX9_undo 20 = .ok (.aload_n 0, 1) := by decide +kernel
theorem dX9_undo_21 : decode cX9_undo 21 = .ok (.getfield 29, 3) := by decide +kernel
theorem dX9_undo_24 : decode cX9_undo 24 = .ok (.getfield 151, 3) := by decide +kernel
theorem dX9_undo_27 : decode cX9_undo 27 = .ok (.ireturn, 1) := by decide +kernel
set_option maxRecDepth 20000 in
theorem ggX9_now_X9_widthsTogether : GoodIn wsX9_now wsX9_widthsTogether := goodIn_r _ [8, 9, 10, 1, 2, 11, 12, 13, 14, 15, 16, 17, 18, 19, 20, 21, 22, 23, 24, 25, 31, 32, 33, 34, 35, 36, 37, 38, 39, 40, 49, 50, 51, 52, 53, 54, 55, 56, 57, 58, 59, 60, 61, 62, 63, 64, 65, 41, 42, 43, 44, 45, 46, 47, 48] (by decide +kernel) (by decide +kernel)
set_option maxRecDepth 20000 in
theorem gX9_now_X9_widthsTogether : GoodIn wsX9_now (wsV RX9 147 RX9 yX9_widthsTogether wsX9_widthsTogether) := goodIn_app (goodIn_of _ (by decide +kernel)) ggX9_now_X9_widthsTogether
set_option maxRecDepth 20000 in
theorem ggX9_now_X9_streetsWithHidden : GoodIn wsX9_now wsX9_streetsWithHidden := goodIn_r _ [29, 9, 10, 1, 2, 30, 31, 32, 33, 34, 35, 36, 37, 38, 39, 40, 49, 50, 51, 52, 53, 54, 55, 56, 57, 58, 59, 60, 61, 62, 63, 64, 65, 41, 42, 43, 44, 45, 46, 47, 48] (by decide +kernel) (by decide +kernel)
set_option maxRecDepth 20000 in
theorem gX9_now_X9_streetsWithHidden : GoodIn wsX9_now (wsV RX9 157 RX9 yX9_streetsWithHidden wsX9_streetsWithHidden) := goodIn_app (goodIn_of _ (by decide +kernel)) ggX9_now_X9_streetsWithHidden
theorem dX9_now_0 : decode cX9_now 0 = .ok (.iload_n 1, 1) := by decide +kernel
theorem dX9_now_1 : decode cX9_now 1 = .ok (.tableswitch 48 0 2 #[27, 38, 43], 27) := by decide +kernel
theorem dX9_now_28 : decode cX9_now 28 = .ok (.aload_n 0, 1) := by decide +kernel
theorem dX9_now_29 : decode cX9_now 29 = .ok (.getfield 29, 3) := by decide +kernel
theorem dX9_now_32 : decode cX9_now 32 = .ok (.getfield 98, 3) := by decide +kernel
theorem dX9_now_35 : decode cX9_now 35 = .ok (.getfield 144, 3) := by decide +kernel
theorem dX9_now_38 : decode cX9_now 38 = .ok (.ireturn, 1) := by decide +kernel
theorem dX9_now_39 : decode cX9_now 39 = .ok (.aload_n 0, 1) := by decide +kernel
theorem dX9_now_40 : decode cX9_now 40 = .ok (.invokevirtual 147, 3) := by decide +kernel
theorem dX9_now_43 : decode cX9_now 43 = .ok (.ireturn, 1) := by decide +kernel
theorem dX9_now_44 : decode cX9_now 44 = .ok (.aload_n 0, 1) := by decide +kernel
theorem dX9_now_45 : decode cX9_now 45 = .ok (.invokevirtual 157, 3) := by decide +kernel
theorem dX9_now_48 : decode cX9_now 48 = .ok (.ireturn, 1) := by decide +kernel
theorem dX9_now_49 : decode cX9_now 49 = .ok (.iconst (-1), 1) := by decide +kernel
theorem dX9_now_50 : decode cX9_now 50 = .ok (.ireturn, 1) := by decide +kernel
set_option maxRecDepth 20000 in
theorem ggX9_widest_X9_areUnlikeYards : GoodIn wsX9_widest wsX9_areUnlikeYards := goodIn_r _ [5, 6, 7, 8, 9, 4, 10, 87, 88, 89, 90, 91, 92, 93, 94, 95, 96, 97, 98, 99, 100, 101, 102, 103, 104, 105, 106, 107, 108, 109, 110, 111, 112, 113] (by decide +kernel) (by decide +kernel)
set_option maxRecDepth 20000 in
theorem gX9_widest_X9_areUnlikeYards : GoodIn wsX9_widest (wsV RX9 160 RX9 yX9_areUnlikeYards wsX9_areUnlikeYards) := goodIn_app (goodIn_of _ (by decide +kernel)) ggX9_widest_X9_areUnlikeYards
set_option maxRecDepth 20000 in
theorem ggX9_widest_X9_waysNow : GoodIn wsX9_widest wsX9_waysNow := goodIn_r _ [14, 15, 16, 6, 17, 18, 19, 20, 21, 22, 23, 24, 25, 26, 27, 28, 29, 30, 31, 32, 33, 34, 35, 36, 37, 38, 39, 40, 41, 42, 43, 44, 45, 46, 47, 48, 49, 50, 51, 52, 53, 54, 55, 56, 57, 58, 87, 88, 89, 90, 91, 92, 93, 94, 95, 96, 114, 115, 116, 117, 118, 97, 98, 99, 100, 101, 102, 103, 104, 105, 106, 107, 108, 109, 110, 111, 112, 113, 119, 120, 121, 122, 123] (by decide +kernel) (by decide +kernel)
set_option maxRecDepth 20000 in
theorem gX9_widest_X9_waysNow : GoodIn wsX9_widest (wsV RX9 164 RX9 yX9_waysNow wsX9_waysNow) := goodIn_app (goodIn_of _ (by decide +kernel)) ggX9_widest_X9_waysNow
set_option maxRecDepth 20000 in
theorem ggX9_widest_X8_widestWay : GoodIn wsX9_widest wsX8_widestWay := goodIn_r _ [63, 64, 65, 66, 62, 67, 68, 69, 70, 71, 72, 73, 74, 75, 76, 77, 78, 79, 80, 81, 30, 82, 35, 40, 83, 84, 85, 86, 114, 115, 97, 98, 99, 100, 101, 102, 103, 104, 105, 106, 107, 108, 109, 110, 111, 112, 113] (by decide +kernel) (by decide +kernel)
set_option maxRecDepth 20000 in
theorem gX9_widest_X8_widestWay : GoodIn wsX9_widest (wsV RX9 168 RX8 yX8_widestWay wsX8_widestWay) := goodIn_app (goodIn_of _ (by decide +kernel)) ggX9_widest_X8_widestWay
theorem dX9_widest_0 : decode cX9_widest 0 = .ok (.aload_n 0, 1) := by decide +kernel
theorem dX9_widest_1 : decode cX9_widest 1 = .ok (.iload_n 1, 1) := by decide +kernel
theorem dX9_widest_2 : decode cX9_widest 2 = .ok (.iload_n 2, 1) := by decide +kernel
theorem dX9_widest_3 : decode cX9_widest 3 = .ok (.invokevirtual 160, 3) := by decide +kernel
theorem dX9_widest_6 : decode cX9_widest 6 = .ok (.ifCond .eq 15, 3) := by decide +kernel
theorem dX9_widest_9 : decode cX9_widest 9 = .ok (.aload_n 0, 1) := by decide +kernel
theorem dX9_widest_10 : decode cX9_widest 10 = .ok (.invokevirtual 164, 3) := by decide +kernel
theorem dX9_widest_13 : decode cX9_widest 13 = .ok (.iload_n 1, 1) := by decide +kernel
theorem dX9_widest_14 : decode cX9_widest 14 = .ok (.iload_n 2, 1) := by decide +kernel
theorem dX9_widest_15 : decode cX9_widest 15 = .ok (.invokevirtual 168, 3) := by decide +kernel
theorem dX9_widest_18 : decode cX9_widest 18 = .ok (.goto 4, 3) := by decide +kernel
theorem dX9_widest_21 : decode cX9_widest 21 = .ok (.iconst (-1), 1) := by decide +kernel
theorem dX9_widest_22 : decode cX9_widest 22 = .ok (.ireturn, 1) := by decide +kernel
set_option maxRecDepth 20000 in
theorem ggX9_way_X9_areUnlikeYards : GoodIn wsX9_way wsX9_areUnlikeYards := goodIn_r _ [5, 6, 7, 8, 9, 4, 10, 83, 84, 85, 86, 87, 88, 89, 90, 91, 92, 93, 94, 95, 96, 97, 98, 99, 100, 101, 102, 103, 104, 105, 106, 107, 108, 109] (by decide +kernel) (by decide +kernel)
set_option maxRecDepth 20000 in
theorem gX9_way_X9_areUnlikeYards : GoodIn wsX9_way (wsV RX9 160 RX9 yX9_areUnlikeYards wsX9_areUnlikeYards) := goodIn_app (goodIn_of _ (by decide +kernel)) ggX9_way_X9_areUnlikeYards
set_option maxRecDepth 20000 in
theorem ggX9_way_X9_isWithin : GoodIn wsX9_way wsX9_isWithin := goodIn_r _ [10] (by decide +kernel) (by decide +kernel)
set_option maxRecDepth 20000 in
theorem gX9_way_X9_isWithin : GoodIn wsX9_way (va_wsS RX9 58 yX9_isWithin wsX9_isWithin) := goodIn_app (goodIn_of _ (by decide +kernel)) ggX9_way_X9_isWithin
set_option maxRecDepth 20000 in
theorem ggX9_way_X9_waysNow : GoodIn wsX9_way wsX9_waysNow := goodIn_r _ [14, 15, 16, 6, 17, 18, 19, 20, 21, 22, 23, 24, 25, 26, 27, 28, 29, 30, 31, 32, 33, 34, 35, 36, 37, 38, 39, 40, 41, 42, 43, 44, 45, 46, 47, 48, 49, 50, 51, 52, 53, 54, 55, 56, 57, 58, 83, 84, 85, 86, 87, 88, 89, 90, 91, 92, 110, 111, 112, 113, 114, 93, 94, 95, 96, 97, 98, 99, 100, 101, 102, 103, 104, 105, 106, 107, 108, 109, 115, 116, 117, 118, 119] (by decide +kernel) (by decide +kernel)
set_option maxRecDepth 20000 in
theorem gX9_way_X9_waysNow : GoodIn wsX9_way (wsV RX9 164 RX9 yX9_waysNow wsX9_waysNow) := goodIn_app (goodIn_of _ (by decide +kernel)) ggX9_way_X9_waysNow
set_option maxRecDepth 20000 in
theorem ggX9_way_X8_fewestStreets : GoodIn wsX9_way wsX8_fewestStreets := goodIn_r _ [63, 64, 65, 66, 67, 68, 69, 62, 70, 71, 72, 73, 74, 75, 76, 77, 30, 78, 35, 40, 79, 80, 81, 82, 110, 111, 93, 94, 95, 96, 97, 98, 99, 100, 101, 102, 103, 104, 105, 106, 107, 108, 109] (by decide +kernel) (by decide +kernel)
set_option maxRecDepth 20000 in
theorem gX9_way_X8_fewestStreets : GoodIn wsX9_way (wsV RX9 172 RX8 yX8_fewestStreets wsX8_fewestStreets) := goodIn_app (goodIn_of _ (by decide +kernel)) ggX9_way_X8_fewestStreets
theorem dX9_way_0 : decode cX9_way 0 = .ok (.aload_n 0, 1) := by decide +kernel
theorem dX9_way_1 : decode cX9_way 1 = .ok (.iload_n 1, 1) := by decide +kernel
theorem dX9_way_2 : decode cX9_way 2 = .ok (.iload_n 2, 1) := by decide +kernel
theorem dX9_way_3 : decode cX9_way 3 = .ok (.invokevirtual 160, 3) := by decide +kernel
theorem dX9_way_6 : decode cX9_way 6 = .ok (.ifCond .eq 13, 3) := by decide +kernel
theorem dX9_way_9 : decode cX9_way 9 = .ok (.iload_n 3, 1) := by decide +kernel
theorem dX9_way_10 : decode cX9_way 10 = .ok (.iconst 1, 1) := by decide +kernel
theorem dX9_way_11 : decode cX9_way 11 = .ok (.bipush 10, 2) := by decide +kernel
theorem dX9_way_13 : decode cX9_way 13 = .ok (.invokestatic 58, 3) := by decide +kernel
theorem dX9_way_16 : decode cX9_way 16 = .ok (.ifCond .ne 5, 3) := by decide +kernel
theorem dX9_way_19 : decode cX9_way 19 = .ok (.iconst (-1), 1) := by decide +kernel
theorem dX9_way_20 : decode cX9_way 20 = .ok (.ireturn, 1) := by decide +kernel
theorem dX9_way_21 : decode cX9_way 21 = .ok (.aload_n 0, 1) := by decide +kernel
theorem dX9_way_22 : decode cX9_way 22 = .ok (.invokevirtual 164, 3) := by decide +kernel
theorem dX9_way_25 : decode cX9_way 25 = .ok (.iload_n 1, 1) := by decide +kernel
theorem dX9_way_26 : decode cX9_way 26 = .ok (.iload_n 2, 1) := by decide +kernel
theorem dX9_way_27 : decode cX9_way 27 = .ok (.iload_n 3, 1) := by decide +kernel
theorem dX9_way_28 : decode cX9_way 28 = .ok (.invokevirtual 172, 3) := by decide +kernel
theorem dX9_way_31 : decode cX9_way 31 = .ok (.ireturn, 1) := by decide +kernel
set_option maxRecDepth 20000 in
theorem ggX9_flow_X9_areUnlikeYards : GoodIn wsX9_flow wsX9_areUnlikeYards := goodIn_r _ [5, 6, 7, 8, 9, 4, 10, 100, 101, 102, 103, 104, 105, 106, 107, 108, 109, 110, 111, 112, 113, 114, 115, 116, 117, 118, 119, 120, 121, 122, 123, 124, 125, 126] (by decide +kernel) (by decide +kernel)
set_option maxRecDepth 20000 in
theorem gX9_flow_X9_areUnlikeYards : GoodIn wsX9_flow (wsV RX9 160 RX9 yX9_areUnlikeYards wsX9_areUnlikeYards) := goodIn_app (goodIn_of _ (by decide +kernel)) ggX9_flow_X9_areUnlikeYards
set_option maxRecDepth 20000 in
theorem ggX9_flow_X9_isWithin : GoodIn wsX9_flow wsX9_isWithin := goodIn_r _ [10] (by decide +kernel) (by decide +kernel)
set_option maxRecDepth 20000 in
theorem gX9_flow_X9_isWithin : GoodIn wsX9_flow (va_wsS RX9 58 yX9_isWithin wsX9_isWithin) := goodIn_app (goodIn_of _ (by decide +kernel)) ggX9_flow_X9_isWithin
set_option maxRecDepth 20000 in
theorem ggX9_flow_X9_waysNow : GoodIn wsX9_flow wsX9_waysNow := goodIn_r _ [14, 15, 16, 6, 17, 18, 19, 20, 21, 22, 23, 24, 25, 26, 27, 28, 29, 30, 31, 32, 33, 34, 35, 36, 37, 38, 39, 40, 41, 42, 43, 44, 45, 46, 47, 48, 49, 50, 51, 52, 53, 54, 55, 56, 57, 58, 100, 101, 102, 103, 104, 105, 106, 107, 108, 109, 127, 128, 129, 130, 131, 110, 111, 112, 113, 114, 115, 116, 117, 118, 119, 120, 121, 122, 123, 124, 125, 126, 132, 133, 134, 135, 136] (by decide +kernel) (by decide +kernel)
set_option maxRecDepth 20000 in
theorem gX9_flow_X9_waysNow : GoodIn wsX9_flow (wsV RX9 164 RX9 yX9_waysNow wsX9_waysNow) := goodIn_app (goodIn_of _ (by decide +kernel)) ggX9_flow_X9_waysNow
set_option maxRecDepth 20000 in
theorem ggX9_flow_X8_leastCut : GoodIn wsX9_flow wsX8_leastCut := goodIn_r _ [63, 64, 65, 66, 67, 68, 69, 57, 70, 71, 72, 73, 74, 75, 76, 77, 78, 79, 80, 62, 81, 82, 83, 84, 85, 86, 87, 22, 88, 89, 90, 91, 92, 93, 127, 128, 110, 111, 112, 113, 114, 115, 116, 117, 118, 119, 120, 121, 122, 123, 124, 125, 126] (by decide +kernel) (by decide +kernel)
set_option maxRecDepth 20000 in
theorem gX9_flow_X8_leastCut : GoodIn wsX9_flow (wsV RX9 176 RX8 yX8_leastCut wsX8_leastCut) := goodIn_app (goodIn_of _ (by decide +kernel)) ggX9_flow_X8_leastCut
set_option maxRecDepth 20000 in
theorem ggX9_flow_X8_widthIn : GoodIn wsX9_flow wsX8_widthIn := goodIn_r _ [96] (by decide +kernel) (by decide +kernel)
set_option maxRecDepth 20000 in
theorem gX9_flow_X8_widthIn : GoodIn wsX9_flow (va_wsS RX9 179 yX8_widthIn wsX8_widthIn) := goodIn_app (goodIn_of _ (by decide +kernel)) ggX9_flow_X8_widthIn
set_option maxRecDepth 20000 in
theorem ggX9_flow_X8_streetsIn : GoodIn wsX9_flow wsX8_streetsIn := goodIn_r _ [99] (by decide +kernel) (by decide +kernel)
set_option maxRecDepth 20000 in
theorem gX9_flow_X8_streetsIn : GoodIn wsX9_flow (va_wsS RX9 182 yX8_streetsIn wsX8_streetsIn) := goodIn_app (goodIn_of _ (by decide +kernel)) ggX9_flow_X8_streetsIn
theorem dX9_flow_0 : decode cX9_flow 0 = .ok (.aload_n 0, 1) := by decide +kernel
theorem dX9_flow_1 : decode cX9_flow 1 = .ok (.iload_n 1, 1) := by decide +kernel
theorem dX9_flow_2 : decode cX9_flow 2 = .ok (.iload_n 2, 1) := by decide +kernel
theorem dX9_flow_3 : decode cX9_flow 3 = .ok (.invokevirtual 160, 3) := by decide +kernel
theorem dX9_flow_6 : decode cX9_flow 6 = .ok (.ifCond .eq 12, 3) := by decide +kernel
theorem dX9_flow_9 : decode cX9_flow 9 = .ok (.iload_n 3, 1) := by decide +kernel
theorem dX9_flow_10 : decode cX9_flow 10 = .ok (.iconst 0, 1) := by decide +kernel
theorem dX9_flow_11 : decode cX9_flow 11 = .ok (.iconst 1, 1) := by decide +kernel
theorem dX9_flow_12 : decode cX9_flow 12 = .ok (.invokestatic 58, 3) := by decide +kernel
theorem dX9_flow_15 : decode cX9_flow 15 = .ok (.ifCond .ne 5, 3) := by decide +kernel
theorem dX9_flow_18 : decode cX9_flow 18 = .ok (.iconst (-1), 1) := by decide +kernel
theorem dX9_flow_19 : decode cX9_flow 19 = .ok (.ireturn, 1) := by decide +kernel
theorem dX9_flow_20 : decode cX9_flow 20 = .ok (.aload_n 0, 1) := by decide +kernel
theorem dX9_flow_21 : decode cX9_flow 21 = .ok (.invokevirtual 164, 3) := by decide +kernel
theorem dX9_flow_24 : decode cX9_flow 24 = .ok (.iload_n 1, 1) := by decide +kernel
theorem dX9_flow_25 : decode cX9_flow 25 = .ok (.iload_n 2, 1) := by decide +kernel
theorem dX9_flow_26 : decode cX9_flow 26 = .ok (.invokevirtual 176, 3) := by decide +kernel
theorem dX9_flow_29 : decode cX9_flow 29 = .ok (.istore 4, 2) := by decide +kernel
theorem dX9_flow_31 : decode cX9_flow 31 = .ok (.iload_n 3, 1) := by decide +kernel
theorem dX9_flow_32 : decode cX9_flow 32 = .ok (.ifCond .ne 11, 3) := by decide +kernel
theorem dX9_flow_35 : decode cX9_flow 35 = .ok (.iload 4, 2) := by decide +kernel
theorem dX9_flow_37 : decode cX9_flow 37 = .ok (.invokestatic 179, 3) := by decide +kernel
theorem dX9_flow_40 : decode cX9_flow 40 = .ok (.goto 8, 3) := by decide +kernel
theorem dX9_flow_43 : decode cX9_flow 43 = .ok (.iload 4, 2) := by decide +kernel
theorem dX9_flow_45 : decode cX9_flow 45 = .ok (.invokestatic 182, 3) := by decide +kernel
theorem dX9_flow_48 : decode cX9_flow 48 = .ok (.ireturn, 1) := by decide +kernel
set_option maxRecDepth 20000 in
theorem ggX9_need_X9_areUnlikeYards : GoodIn wsX9_need wsX9_areUnlikeYards := goodIn_r _ [6, 7, 8, 9, 10, 5, 11, 91, 92, 93, 94, 95, 96, 97, 98, 99, 100, 101, 102, 103, 104, 105, 106, 107, 108, 109, 110, 111, 112, 113, 114, 115, 116, 117] (by decide +kernel) (by decide +kernel)
set_option maxRecDepth 20000 in
theorem gX9_need_X9_areUnlikeYards : GoodIn wsX9_need (wsV RX9 160 RX9 yX9_areUnlikeYards wsX9_areUnlikeYards) := goodIn_app (goodIn_of _ (by decide +kernel)) ggX9_need_X9_areUnlikeYards
set_option maxRecDepth 20000 in
theorem ggX9_need_X9_isWithin : GoodIn wsX9_need wsX9_isWithin := goodIn_r _ [11] (by decide +kernel) (by decide +kernel)
set_option maxRecDepth 20000 in
theorem gX9_need_X9_isWithin : GoodIn wsX9_need (va_wsS RX9 58 yX9_isWithin wsX9_isWithin) := goodIn_app (goodIn_of _ (by decide +kernel)) ggX9_need_X9_isWithin
set_option maxRecDepth 20000 in
theorem ggX9_need_X9_waysNow : GoodIn wsX9_need wsX9_waysNow := goodIn_r _ [15, 16, 17, 7, 18, 19, 20, 21, 22, 23, 24, 25, 26, 27, 28, 29, 30, 31, 32, 33, 34, 35, 36, 37, 38, 39, 40, 41, 42, 43, 44, 45, 46, 47, 48, 49, 50, 51, 52, 53, 54, 55, 56, 57, 58, 59, 91, 92, 93, 94, 95, 96, 97, 98, 99, 100, 118, 119, 120, 121, 122, 101, 102, 103, 104, 105, 106, 107, 108, 109, 110, 111, 112, 113, 114, 115, 116, 117, 123, 124, 125, 126, 127] (by decide +kernel) (by decide +kernel)
set_option maxRecDepth 20000 in
theorem gX9_need_X9_waysNow : GoodIn wsX9_need (wsV RX9 164 RX9 yX9_waysNow wsX9_waysNow) := goodIn_app (goodIn_of _ (by decide +kernel)) ggX9_need_X9_waysNow
set_option maxRecDepth 20000 in
theorem ggX9_need_X8_leastPrice : GoodIn wsX9_need wsX8_leastPrice := goodIn_r _ [64, 65, 66, 67, 68, 69, 70, 71, 72, 73, 74, 75, 76, 77, 78, 79, 63, 80, 81, 82, 83, 84, 85, 86, 58, 87, 118, 119, 101, 102, 103, 104, 105, 106, 107, 108, 109, 110, 111, 112, 113, 114, 115, 116, 117] (by decide +kernel) (by decide +kernel)
set_option maxRecDepth 20000 in
theorem gX9_need_X8_leastPrice : GoodIn wsX9_need (wsV RX9 185 RX8 yX8_leastPrice wsX8_leastPrice) := goodIn_app (goodIn_of _ (by decide +kernel)) ggX9_need_X8_leastPrice
set_option maxRecDepth 20000 in
theorem ggX9_need_X8_streetsIn : GoodIn wsX9_need wsX8_streetsIn := goodIn_r _ [90] (by decide +kernel) (by decide +kernel)
set_option maxRecDepth 20000 in
theorem gX9_need_X8_streetsIn : GoodIn wsX9_need (va_wsS RX9 182 yX8_streetsIn wsX8_streetsIn) := goodIn_app (goodIn_of _ (by decide +kernel)) ggX9_need_X8_streetsIn
theorem dX9_need_0 : decode cX9_need 0 = .ok (.aload_n 0, 1) := by decide +kernel
theorem dX9_need_1 : decode cX9_need 1 = .ok (.iload_n 1, 1) := by decide +kernel
theorem dX9_need_2 : decode cX9_need 2 = .ok (.iload_n 2, 1) := by decide +kernel
theorem dX9_need_3 : decode cX9_need 3 = .ok (.invokevirtual 160, 3) := by decide +kernel
theorem dX9_need_6 : decode cX9_need 6 = .ok (.ifCond .eq 13, 3) := by decide +kernel
theorem dX9_need_9 : decode cX9_need 9 = .ok (.iload_n 3, 1) := by decide +kernel
theorem dX9_need_10 : decode cX9_need 10 = .ok (.iconst 1, 1) := by decide +kernel
theorem dX9_need_11 : decode cX9_need 11 = .ok (.bipush 10, 2) := by decide +kernel
theorem dX9_need_13 : decode cX9_need 13 = .ok (.invokestatic 58, 3) := by decide +kernel
theorem dX9_need_16 : decode cX9_need 16 = .ok (.ifCond .ne 5, 3) := by decide +kernel
theorem dX9_need_19 : decode cX9_need 19 = .ok (.iconst (-1), 1) := by decide +kernel
theorem dX9_need_20 : decode cX9_need 20 = .ok (.ireturn, 1) := by decide +kernel
theorem dX9_need_21 : decode cX9_need 21 = .ok (.aload_n 0, 1) := by decide +kernel
theorem dX9_need_22 : decode cX9_need 22 = .ok (.invokevirtual 164, 3) := by decide +kernel
theorem dX9_need_25 : decode cX9_need 25 = .ok (.iload_n 1, 1) := by decide +kernel
theorem dX9_need_26 : decode cX9_need 26 = .ok (.iload_n 2, 1) := by decide +kernel
theorem dX9_need_27 : decode cX9_need 27 = .ok (.iload_n 3, 1) := by decide +kernel
theorem dX9_need_28 : decode cX9_need 28 = .ok (.invokevirtual 185, 3) := by decide +kernel
theorem dX9_need_31 : decode cX9_need 31 = .ok (.istore 4, 2) := by decide +kernel
theorem dX9_need_33 : decode cX9_need 33 = .ok (.iload 4, 2) := by decide +kernel
theorem dX9_need_35 : decode cX9_need 35 = .ok (.ldc 188, 2) := by decide +kernel
theorem dX9_need_37 : decode cX9_need 37 = .ok (.if_icmp .ge 11, 3) := by decide +kernel
theorem dX9_need_40 : decode cX9_need 40 = .ok (.iload 4, 2) := by decide +kernel
theorem dX9_need_42 : decode cX9_need 42 = .ok (.invokestatic 182, 3) := by decide +kernel
theorem dX9_need_45 : decode cX9_need 45 = .ok (.goto 5, 3) := by decide +kernel
theorem dX9_need_48 : decode cX9_need 48 = .ok (.bipush (-9), 2) := by decide +kernel
theorem dX9_need_50 : decode cX9_need 50 = .ok (.ireturn, 1) := by decide +kernel
set_option maxRecDepth 20000 in
theorem ggX9_odds_X9_areUnlikeYards : GoodIn wsX9_odds wsX9_areUnlikeYards := goodIn_r _ [7, 1, 8, 9, 10, 6, 11, 108, 109, 110, 111, 112, 113, 114, 115, 116, 117, 118, 119, 120, 121, 122, 123, 124, 125, 126, 127, 128, 129, 130, 131, 132, 133, 134] (by decide +kernel) (by decide +kernel)
set_option maxRecDepth 20000 in
theorem gX9_odds_X9_areUnlikeYards : GoodIn wsX9_odds (wsV RX9 160 RX9 yX9_areUnlikeYards wsX9_areUnlikeYards) := goodIn_app (goodIn_of _ (by decide +kernel)) ggX9_odds_X9_areUnlikeYards
set_option maxRecDepth 20000 in
theorem ggX9_odds_X9_isWithin : GoodIn wsX9_odds wsX9_isWithin := goodIn_r _ [11] (by decide +kernel) (by decide +kernel)
set_option maxRecDepth 20000 in
theorem gX9_odds_X9_isWithin : GoodIn wsX9_odds (va_wsS RX9 58 yX9_isWithin wsX9_isWithin) := goodIn_app (goodIn_of _ (by decide +kernel)) ggX9_odds_X9_isWithin
set_option maxRecDepth 20000 in
theorem ggX9_odds_X8_tenTo : GoodIn wsX9_odds wsX8_tenTo := goodIn_r _ [15] (by decide +kernel) (by decide +kernel)
set_option maxRecDepth 20000 in
theorem gX9_odds_X8_tenTo : GoodIn wsX9_odds (va_wsS RX9 192 yX8_tenTo wsX8_tenTo) := goodIn_app (goodIn_of _ (by decide +kernel)) ggX9_odds_X8_tenTo
set_option maxRecDepth 20000 in
theorem ggX9_odds_X9_waysNow : GoodIn wsX9_odds wsX9_waysNow := goodIn_r _ [19, 20, 21, 1, 22, 23, 24, 25, 26, 27, 28, 29, 30, 31, 32, 33, 34, 35, 36, 37, 38, 39, 40, 41, 42, 43, 44, 45, 46, 47, 48, 49, 50, 51, 52, 53, 54, 55, 56, 57, 58, 59, 60, 61, 62, 63, 108, 109, 110, 111, 112, 113, 114, 115, 116, 117, 135, 136, 137, 138, 139, 118, 119, 120, 121, 122, 123, 124, 125, 126, 127, 128, 129, 130, 131, 132, 133, 134, 140, 141, 142, 143, 144] (by decide +kernel) (by decide +kernel)
set_option maxRecDepth 20000 in
theorem gX9_odds_X9_waysNow : GoodIn wsX9_odds (wsV RX9 164 RX9 yX9_waysNow wsX9_waysNow) := goodIn_app (goodIn_of _ (by decide +kernel)) ggX9_odds_X9_waysNow
set_option maxRecDepth 20000 in
theorem ggX9_odds_X5_allOf : GoodIn wsX9_odds wsX5_allOf := goodIn_r _ [67] (by decide +kernel) (by decide +kernel)
set_option maxRecDepth 20000 in
theorem gX9_odds_X5_allOf : GoodIn wsX9_odds (va_wsS RX9 195 yX5_allOf wsX5_allOf) := goodIn_app (goodIn_of _ (by decide +kernel)) ggX9_odds_X5_allOf
set_option maxRecDepth 20000 in
theorem ggX9_odds_X8_chances : GoodIn wsX9_odds wsX8_chances := goodIn_r _ [71, 72, 73, 74, 66, 75, 76, 77, 78, 79, 80, 81, 82, 83, 13, 14, 15, 84, 85, 86, 87, 88, 89, 90, 91, 92, 27, 93, 94, 95, 96, 97, 98, 99, 100, 101, 102, 103, 104, 105, 35, 106, 40, 45, 107, 69, 70, 135, 136, 118, 119, 120, 121, 122, 123, 124, 125, 126, 127, 128, 129, 130, 131, 132, 133, 134] (by decide +kernel) (by decide +kernel)
set_option maxRecDepth 20000 in
theorem gX9_odds_X8_chances : GoodIn wsX9_odds (wsV RX9 200 RX8 yX8_chances wsX8_chances) := goodIn_app (goodIn_of _ (by decide +kernel)) ggX9_odds_X8_chances
theorem dX9_odds_0 : decode cX9_odds 0 = .ok (.aload_n 0, 1) := by decide +kernel
theorem dX9_odds_1 : decode cX9_odds 1 = .ok (.iload_n 1, 1) := by decide +kernel
theorem dX9_odds_2 : decode cX9_odds 2 = .ok (.iload_n 2, 1) := by decide +kernel
theorem dX9_odds_3 : decode cX9_odds 3 = .ok (.invokevirtual 160, 3) := by decide +kernel
theorem dX9_odds_6 : decode cX9_odds 6 = .ok (.ifCond .eq 23, 3) := by decide +kernel
theorem dX9_odds_9 : decode cX9_odds 9 = .ok (.iload_n 3, 1) := by decide +kernel
theorem dX9_odds_10 : decode cX9_odds 10 = .ok (.iconst 0, 1) := by decide +kernel
theorem dX9_odds_11 : decode cX9_odds 11 = .ok (.bipush 10, 2) := by decide +kernel
theorem dX9_odds_13 : decode cX9_odds 13 = .ok (.invokestatic 58, 3) := by decide +kernel
theorem dX9_odds_16 : decode cX9_odds 16 = .ok (.ifCond .eq 13, 3) := by decide +kernel
theorem dX9_odds_19 : decode cX9_odds 19 = .ok (.iload 4, 2) := by decide +kernel
theorem dX9_odds_21 : decode cX9_odds 21 = .ok (.iconst 0, 1) := by decide +kernel
theorem dX9_odds_22 : decode cX9_odds 22 = .ok (.iconst 1, 1) := by decide +kernel
theorem dX9_odds_23 : decode cX9_odds 23 = .ok (.invokestatic 58, 3) := by decide +kernel
theorem dX9_odds_26 : decode cX9_odds 26 = .ok (.ifCond .ne 5, 3) := by decide +kernel
theorem dX9_odds_29 : decode cX9_odds 29 = .ok (.iconst (-1), 1) := by decide +kernel
theorem dX9_odds_30 : decode cX9_odds 30 = .ok (.ireturn, 1) := by decide +kernel
theorem dX9_odds_31 : decode cX9_odds 31 = .ok (.aload_n 0, 1) := by decide +kernel
theorem dX9_odds_32 : decode cX9_odds 32 = .ok (.getfield 23, 3) := by decide +kernel
theorem dX9_odds_35 : decode cX9_odds 35 = .ok (.getfield 189, 3) := by decide +kernel
theorem dX9_odds_38 : decode cX9_odds 38 = .ok (.invokestatic 192, 3) := by decide +kernel
theorem dX9_odds_41 : decode cX9_odds 41 = .ok (.istore 5, 2) := by decide +kernel
theorem dX9_odds_43 : decode cX9_odds 43 = .ok (.aload_n 0, 1) := by decide +kernel
theorem dX9_odds_44 : decode cX9_odds 44 = .ok (.invokevirtual 164, 3) := by decide +kernel
theorem dX9_odds_47 : decode cX9_odds 47 = .ok (.iconst 1, 1) := by decide +kernel
theorem dX9_odds_48 : decode cX9_odds 48 = .ok (.iload_n 1, 1) := by decide +kernel
theorem dX9_odds_49 : decode cX9_odds 49 = .ok (.ishl, 1) := by decide +kernel
theorem dX9_odds_50 : decode cX9_odds 50 = .ok (.aload_n 0, 1) := by decide +kernel
theorem dX9_odds_51 : decode cX9_odds 51 = .ok (.getfield 23, 3) := by decide +kernel
theorem dX9_odds_54 : decode cX9_odds 54 = .ok (.getfield 189, 3) := by decide +kernel
theorem dX9_odds_57 : decode cX9_odds 57 = .ok (.invokestatic 195, 3) := by decide +kernel
theorem dX9_odds_60 : decode cX9_odds 60 = .ok (.iload_n 2, 1) := by decide +kernel
theorem dX9_odds_61 : decode cX9_odds 61 = .ok (.iload_n 3, 1) := by decide +kernel
theorem dX9_odds_62 : decode cX9_odds 62 = .ok (.invokevirtual 200, 3) := by decide +kernel
theorem dX9_odds_65 : decode cX9_odds 65 = .ok (.istore 6, 2) := by decide +kernel
theorem dX9_odds_67 : decode cX9_odds 67 = .ok (.iconst 0, 1) := by decide +kernel
theorem dX9_odds_68 : decode cX9_odds 68 = .ok (.istore 7, 2) := by decide +kernel
theorem dX9_odds_70 : decode cX9_odds 70 = .ok (.iload 7, 2) := by decide +kernel
theorem dX9_odds_72 : decode cX9_odds 72 = .ok (.aload_n 0, 1) := by decide +kernel
theorem dX9_odds_73 : decode cX9_odds 73 = .ok (.getfield 23, 3) := by decide +kernel
theorem dX9_odds_76 : decode cX9_odds 76 = .ok (.getfield 189, 3) := by decide +kernel
theorem dX9_odds_79 : decode cX9_odds 79 = .ok (.if_icmp .ge 47, 3) := by decide +kernel
theorem dX9_odds_82 : decode cX9_odds 82 = .ok (.iload 6, 2) := by decide +kernel
theorem dX9_odds_84 : decode cX9_odds 84 = .ok (.iconst 2, 1) := by decide +kernel
theorem dX9_odds_85 : decode cX9_odds 85 = .ok (.irem, 1) := by decide +kernel
theorem dX9_odds_86 : decode cX9_odds 86 = .ok (.ifCond .ne 15, 3) := by decide +kernel
theorem dX9_odds_89 : decode cX9_odds 89 = .ok (.iload 6, 2) := by decide +kernel
theorem dX9_odds_91 : decode cX9_odds 91 = .ok (.iconst 2, 1) := by decide +kernel
theorem dX9_odds_92 : decode cX9_odds 92 = .ok (.idiv, 1) := by decide +kernel
theorem dX9_odds_93 : decode cX9_odds 93 = .ok (.istore 6, 2) := by decide +kernel
theorem dX9_odds_95 : decode cX9_odds 95 = .ok (.iload 5, 2) := by decide +kernel
theorem dX9_odds_97 : decode cX9_odds 97 = .ok (.iconst 2, 1) := by decide +kernel
theorem dX9_odds_98 : decode cX9_odds 98 = .ok (.idiv, 1) := by decide +kernel
theorem dX9_odds_99 : decode cX9_odds 99 = .ok (.istore 5, 2) := by decide +kernel
theorem dX9_odds_101 : decode cX9_odds 101 = .ok (.iload 6, 2) := by decide +kernel
theorem dX9_odds_103 : decode cX9_odds 103 = .ok (.iconst 5, 1) := by decide +kernel
theorem dX9_odds_104 : decode cX9_odds 104 = .ok (.irem, 1) := by decide +kernel
theorem dX9_odds_105 : decode cX9_odds 105 = .ok (.ifCond .ne 15, 3) := by decide +kernel
theorem dX9_odds_108 : decode cX9_odds 108 = .ok (.iload 6, 2) := by decide +kernel
theorem dX9_odds_110 : decode cX9_odds 110 = .ok (.iconst 5, 1) := by decide +kernel
theorem dX9_odds_111 : decode cX9_odds 111 = .ok (.idiv, 1) := by decide +kernel
theorem dX9_odds_112 : decode cX9_odds 112 = .ok (.istore 6, 2) := by decide +kernel
theorem dX9_odds_114 : decode cX9_odds 114 = .ok (.iload 5, 2) := by decide +kernel
theorem dX9_odds_116 : decode cX9_odds 116 = .ok (.iconst 5, 1) := by decide +kernel
theorem dX9_odds_117 : decode cX9_odds 117 = .ok (.idiv, 1) := by decide +kernel
theorem dX9_odds_118 : decode cX9_odds 118 = .ok (.istore 5, 2) := by decide +kernel
theorem dX9_odds_120 : decode cX9_odds 120 = .ok (.iinc 7 1, 3) := by decide +kernel
theorem dX9_odds_123 : decode cX9_odds 123 = .ok (.goto (-53), 3) := by decide +kernel
theorem dX9_odds_126 : decode cX9_odds 126 = .ok (.iload 4, 2) := by decide +kernel
theorem dX9_odds_128 : decode cX9_odds 128 = .ok (.ifCond .ne 8, 3) := by decide +kernel
theorem dX9_odds_131 : decode cX9_odds 131 = .ok (.iload 6, 2) := by decide +kernel
theorem dX9_odds_133 : decode cX9_odds 133 = .ok (.goto 5, 3) := by decide +kernel
theorem dX9_odds_136 : decode cX9_odds 136 = .ok (.iload 5, 2) := by decide +kernel
theorem dX9_odds_138 : decode cX9_odds 138 = .ok (.ireturn, 1) := by decide +kernel
set_option maxRecDepth 20000 in
theorem ggX9_carriage_X9_isCitizen : GoodIn wsX9_carriage wsX9_isCitizen := goodIn_r _ [11, 3, 12, 13, 14, 10, 15, 99, 100, 101, 102, 103, 104, 105, 106, 107, 108, 114, 115, 116, 117, 118, 119, 120, 121, 122, 123, 124, 125, 126, 127, 128, 129, 130] (by decide +kernel) (by decide +kernel)
set_option maxRecDepth 20000 in
theorem gX9_carriage_X9_isCitizen : GoodIn wsX9_carriage (wsV RX9 120 RX9 yX9_isCitizen wsX9_isCitizen) := goodIn_app (goodIn_of _ (by decide +kernel)) ggX9_carriage_X9_isCitizen
set_option maxRecDepth 20000 in
theorem ggX9_carriage_X4_draw : GoodIn wsX9_carriage wsX4_draw := goodIn_r _ [20, 21, 22, 23, 24, 25, 26, 27, 28, 29, 30, 31, 32, 33, 34, 35, 36, 37, 38, 39, 40, 41, 42, 43, 44, 45, 46, 47, 48, 49, 50, 51, 52, 53, 54, 55, 114, 115, 116, 117, 118, 119, 120, 121, 122, 123, 124, 125, 126, 127, 128, 129, 130, 131, 132, 133, 134, 135] (by decide +kernel) (by decide +kernel)
set_option maxRecDepth 20000 in
theorem gX9_carriage_X4_draw : GoodIn wsX9_carriage (wsV RX9 208 RX4 yX4_draw wsX4_draw) := goodIn_app (goodIn_of _ (by decide +kernel)) ggX9_carriage_X4_draw
set_option maxRecDepth 20000 in
theorem ggX9_carriage_X0_give : GoodIn wsX9_carriage wsX0_give := goodIn_r _ [60, 61, 62, 63, 64, 65, 66, 67, 68, 69, 70, 71, 72, 73, 59, 74, 75, 76, 54, 77, 78, 79, 80, 81, 82, 83, 84, 85, 86, 87, 88, 89, 90, 91, 92, 93, 94, 95, 96, 97, 98, 109, 110, 114, 115, 116, 117, 118, 119, 120, 121, 122, 123, 124, 125, 126, 127, 128, 129, 130] (by decide +kernel) (by decide +kernel)
set_option maxRecDepth 20000 in
theorem gX9_carriage_X0_give : GoodIn wsX9_carriage (wsV RX9 214 RX0 yX0_give wsX0_give) := goodIn_app (goodIn_of _ (by decide +kernel)) ggX9_carriage_X0_give
theorem dX9_carriage_0 : decode cX9_carriage 0 = .ok (.iload_n 1, 1) := by decide +kernel
theorem dX9_carriage_1 : decode cX9_carriage 1 = .ok (.iconst (-1), 1) := by decide +kernel
theorem dX9_carriage_2 : decode cX9_carriage 2 = .ok (.if_icmp .eq 13, 3) := by decide +kernel
theorem dX9_carriage_5 : decode cX9_carriage 5 = .ok (.aload_n 0, 1) := by decide +kernel
theorem dX9_carriage_6 : decode cX9_carriage 6 = .ok (.iload_n 1, 1) := by decide +kernel
theorem dX9_carriage_7 : decode cX9_carriage 7 = .ok (.invokevirtual 120, 3) := by decide +kernel
theorem dX9_carriage_10 : decode cX9_carriage 10 = .ok (.ifCond .ne 5, 3) := by decide +kernel
theorem dX9_carriage_13 : decode cX9_carriage 13 = .ok (.iconst (-1), 1) := by decide +kernel
theorem dX9_carriage_14 : decode cX9_carriage 14 = .ok (.ireturn, 1) := by decide +kernel
theorem dX9_carriage_15 : decode cX9_carriage 15 = .ok (.aload_n 0, 1) := by decide +kernel
theorem dX9_carriage_16 : decode cX9_carriage 16 = .ok (.getfield 47, 3) := by decide +kernel
theorem dX9_carriage_19 : decode cX9_carriage 19 = .ok (.getfield 204, 3) := by decide +kernel
theorem dX9_carriage_22 : decode cX9_carriage 22 = .ok (.aload_n 0, 1) := by decide +kernel
theorem dX9_carriage_23 : decode cX9_carriage 23 = .ok (.getfield 23, 3) := by decide +kernel
theorem dX9_carriage_26 : decode cX9_carriage 26 = .ok (.aload_n 0, 1) := by decide +kernel
theorem dX9_carriage_27 : decode cX9_carriage 27 = .ok (.getfield 29, 3) := by decide +kernel
theorem dX9_carriage_30 : decode cX9_carriage 30 = .ok (.getfield 98, 3) := by decide +kernel
theorem dX9_carriage_33 : decode cX9_carriage 33 = .ok (.invokevirtual 208, 3) := by decide +kernel
theorem dX9_carriage_36 : decode cX9_carriage 36 = .ok (.aload_n 0, 1) := by decide +kernel
theorem dX9_carriage_37 : decode cX9_carriage 37 = .ok (.getfield 47, 3) := by decide +kernel
theorem dX9_carriage_40 : decode cX9_carriage 40 = .ok (.invokevirtual 214, 3) := by decide +kernel
theorem dX9_carriage_43 : decode cX9_carriage 43 = .ok (.istore_n 2, 1) := by decide +kernel
theorem dX9_carriage_44 : decode cX9_carriage 44 = .ok (.iload_n 1, 1) := by decide +kernel
theorem dX9_carriage_45 : decode cX9_carriage 45 = .ok (.iconst (-1), 1) := by decide +kernel
theorem dX9_carriage_46 : decode cX9_carriage 46 = .ok (.if_icmp .ne 7, 3) := by decide +kernel
theorem dX9_carriage_49 : decode cX9_carriage 49 = .ok (.iload_n 2, 1) := by decide +kernel
theorem dX9_carriage_50 : decode cX9_carriage 50 = .ok (.goto 12, 3) := by decide +kernel
theorem dX9_carriage_53 : decode cX9_carriage 53 = .ok (.aload_n 0, 1) := by decide +kernel
theorem dX9_carriage_54 : decode cX9_carriage 54 = .ok (.getfield 47, 3) := by decide +kernel
theorem dX9_carriage_57 : decode cX9_carriage 57 = .ok (.getfield 217, 3) := by decide +kernel
theorem dX9_carriage_60 : decode cX9_carriage 60 = .ok (.iload_n 1, 1) := by decide +kernel
theorem dX9_carriage_61 : decode cX9_carriage 61 = .ok (.iaload, 1) := by decide +kernel
theorem dX9_carriage_62 : decode cX9_carriage 62 = .ok (.ireturn, 1) := by decide +kernel
set_option maxRecDepth 20000 in
theorem ggX9_measures_X9_isWithin : GoodIn wsX9_measures wsX9_isWithin := goodIn_r _ [6] (by decide +kernel) (by decide +kernel)
set_option maxRecDepth 20000 in
theorem gX9_measures_X9_isWithin : GoodIn wsX9_measures (va_wsS RX9 58 yX9_isWithin wsX9_isWithin) := goodIn_app (goodIn_of _ (by decide +kernel)) ggX9_measures_X9_isWithin
set_option maxRecDepth 20000 in
theorem ggX9_measures_X1_add : GoodIn wsX9_measures wsX1_add := goodIn_r _ [11, 12, 13, 14, 25, 26, 27, 28] (by decide +kernel) (by decide +kernel)
set_option maxRecDepth 20000 in
theorem gX9_measures_X1_add : GoodIn wsX9_measures (wsV RX9 220 RX1 yX1_add wsX1_add) := goodIn_app (goodIn_of _ (by decide +kernel)) ggX9_measures_X1_add
theorem dX9_measures_0 : decode cX9_measures 0 = .ok (.iload_n 1, 1) := by decide +kernel
theorem dX9_measures_1 : decode cX9_measures 1 = .ok (.iconst 1, 1) := by decide +kernel
theorem dX9_measures_2 : decode cX9_measures 2 = .ok (.bipush 10, 2) := by decide +kernel
theorem dX9_measures_4 : decode cX9_measures 4 = .ok (.invokestatic 58, 3) := by decide +kernel
theorem dX9_measures_7 : decode cX9_measures 7 = .ok (.ifCond .eq 12, 3) := by decide +kernel
theorem dX9_measures_10 : decode cX9_measures 10 = .ok (.iload_n 2, 1) := by decide +kernel
theorem dX9_measures_11 : decode cX9_measures 11 = .ok (.iconst 0, 1) := by decide +kernel
theorem dX9_measures_12 : decode cX9_measures 12 = .ok (.iconst 1, 1) := by decide +kernel
theorem dX9_measures_13 : decode cX9_measures 13 = .ok (.invokestatic 58, 3) := by decide +kernel
theorem dX9_measures_16 : decode cX9_measures 16 = .ok (.ifCond .ne 5, 3) := by decide +kernel
theorem dX9_measures_19 : decode cX9_measures 19 = .ok (.iconst (-1), 1) := by decide +kernel
theorem dX9_measures_20 : decode cX9_measures 20 = .ok (.ireturn, 1) := by decide +kernel
theorem dX9_measures_21 : decode cX9_measures 21 = .ok (.aload_n 0, 1) := by decide +kernel
theorem dX9_measures_22 : decode cX9_measures 22 = .ok (.getfield 54, 3) := by decide +kernel
theorem dX9_measures_25 : decode cX9_measures 25 = .ok (.getfield 84, 3) := by decide +kernel
theorem dX9_measures_28 : decode cX9_measures 28 = .ok (.iconst 4, 1) := by decide +kernel
theorem dX9_measures_29 : decode cX9_measures 29 = .ok (.if_icmp .lt 6, 3) := by decide +kernel
theorem dX9_measures_32 : decode cX9_measures 32 = .ok (.bipush (-3), 2) := by decide +kernel
theorem dX9_measures_34 : decode cX9_measures 34 = .ok (.ireturn, 1) := by decide +kernel
theorem dX9_measures_35 : decode cX9_measures 35 = .ok (.aload_n 0, 1) := by decide +kernel
theorem dX9_measures_36 : decode cX9_measures 36 = .ok (.getfield 54, 3) := by decide +kernel
theorem dX9_measures_39 : decode cX9_measures 39 = .ok (.iload_n 1, 1) := by decide +kernel
theorem dX9_measures_40 : decode cX9_measures 40 = .ok (.iload_n 2, 1) := by decide +kernel
theorem dX9_measures_41 : decode cX9_measures 41 = .ok (.invokevirtual 220, 3) := by decide +kernel
theorem dX9_measures_44 : decode cX9_measures 44 = .ok (.aload_n 0, 1) := by decide +kernel
theorem dX9_measures_45 : decode cX9_measures 45 = .ok (.getfield 54, 3) := by decide +kernel
theorem dX9_measures_48 : decode cX9_measures 48 = .ok (.getfield 84, 3) := by decide +kernel
theorem dX9_measures_51 : decode cX9_measures 51 = .ok (.ireturn, 1) := by decide +kernel
theorem dX9_forget_0 : decode cX9_forget 0 = .ok (.aload_n 0, 1) := by decide +kernel
theorem dX9_forget_1 : decode cX9_forget 1 = .ok (.getfield 54, 3) := by decide +kernel
theorem dX9_forget_4 : decode cX9_forget 4 = .ok (.getfield 84, 3) := by decide +kernel
theorem dX9_forget_7 : decode cX9_forget 7 = .ok (.istore_n 1, 1) := by decide +kernel
theorem dX9_forget_8 : decode cX9_forget 8 = .ok (.aload_n 0, 1) := by decide +kernel
theorem dX9_forget_9 : decode cX9_forget 9 = .ok (.getfield 54, 3) := by decide +kernel
theorem dX9_forget_12 : decode cX9_forget 12 = .ok (.iconst 0, 1) := by decide +kernel
theorem dX9_forget_13 : decode cX9_forget 13 = .ok (.putfield 84, 3) := by decide +kernel
theorem dX9_forget_16 : decode cX9_forget 16 = .ok (.iload_n 1, 1) := by decide +kernel
theorem dX9_forget_17 : decode cX9_forget 17 = .ok (.ireturn, 1) := by decide +kernel
set_option maxRecDepth 20000 in
theorem ggX9_deeds_X1_manyDeeds : GoodIn wsX9_deeds wsX1_manyDeeds := goodIn_r _ [6, 7, 8, 9, 5, 10, 11, 12, 13, 14, 15, 16, 17, 18, 19, 20, 21, 22, 23, 24, 39, 40, 41, 42] (by decide +kernel) (by decide +kernel)
set_option maxRecDepth 20000 in
theorem gX9_deeds_X1_manyDeeds : GoodIn wsX9_deeds (wsV RX9 223 RX1 yX1_manyDeeds wsX1_manyDeeds) := goodIn_app (goodIn_of _ (by decide +kernel)) ggX9_deeds_X1_manyDeeds
set_option maxRecDepth 20000 in
theorem ggX9_deeds_X1_firstDeeds : GoodIn wsX9_deeds wsX1_firstDeeds := goodIn_r _ [28, 7, 8, 9, 5, 10, 11, 12, 13, 14, 15, 16, 17, 18, 19, 20, 21, 22, 23, 24, 39, 40, 41, 42] (by decide +kernel) (by decide +kernel)
set_option maxRecDepth 20000 in
theorem gX9_deeds_X1_firstDeeds : GoodIn wsX9_deeds (wsV RX9 226 RX1 yX1_firstDeeds wsX1_firstDeeds) := goodIn_app (goodIn_of _ (by decide +kernel)) ggX9_deeds_X1_firstDeeds
theorem dX9_deeds_0 : decode cX9_deeds 0 = .ok (.iload_n 1, 1) := by decide +kernel
theorem dX9_deeds_1 : decode cX9_deeds 1 = .ok (.lookupswitch 43 #[(0, 27), (1, 35)], 27) := by decide +kernel
theorem dX9_deeds_28 : decode cX9_deeds 28 = .ok (.aload_n 0, 1) := by decide +kernel
theorem dX9_deeds_29 : decode cX9_deeds 29 = .ok (.getfield 54, 3) := by decide +kernel
theorem dX9_deeds_32 : decode cX9_deeds 32 = .ok (.invokevirtual 223, 3) := by decide +kernel
theorem dX9_deeds_35 : decode cX9_deeds 35 = .ok (.ireturn, 1) := by decide +kernel
theorem dX9_deeds_36 : decode cX9_deeds 36 = .ok (.aload_n 0, 1) := by decide +kernel
theorem dX9_deeds_37 : decode cX9_deeds 37 = .ok (.getfield 54, 3) := by decide +kernel
theorem dX9_deeds_40 : decode cX9_deeds 40 = .ok (.invokevirtual 226, 3) := by decide +kernel
theorem dX9_deeds_43 : decode cX9_deeds 43 = .ok (.ireturn, 1) := by decide +kernel
theorem dX9_deeds_44 : decode cX9_deeds 44 = .ok (.iconst (-1), 1) := by decide +kernel
theorem dX9_deeds_45 : decode cX9_deeds 45 = .ok (.ireturn, 1) := by decide +kernel
set_option maxRecDepth 20000 in
theorem ggX9_when_X1_mostAlike : GoodIn wsX9_when wsX1_mostAlike := goodIn_r _ [6, 7, 8, 9, 10, 11, 12, 13, 14, 15, 16, 17, 18, 5, 19, 20, 21, 22, 23, 24, 25, 26, 27, 28, 29, 30, 41, 42, 43, 44] (by decide +kernel) (by decide +kernel)
set_option maxRecDepth 20000 in
theorem gX9_when_X1_mostAlike : GoodIn wsX9_when (wsV RX9 229 RX1 yX1_mostAlike wsX1_mostAlike) := goodIn_app (goodIn_of _ (by decide +kernel)) ggX9_when_X1_mostAlike
theorem dX9_when_0 : decode cX9_when 0 = .ok (.aload_n 0, 1) := by decide +kernel
theorem dX9_when_1 : decode cX9_when 1 = .ok (.getfield 54, 3) := by decide +kernel
theorem dX9_when_4 : decode cX9_when 4 = .ok (.iconst 0, 1) := by decide +kernel
theorem dX9_when_5 : decode cX9_when 5 = .ok (.invokevirtual 229, 3) := by decide +kernel
theorem dX9_when_8 : decode cX9_when 8 = .ok (.istore_n 1, 1) := by decide +kernel
theorem dX9_when_9 : decode cX9_when 9 = .ok (.iload_n 1, 1) := by decide +kernel
theorem dX9_when_10 : decode cX9_when 10 = .ok (.ifCond .ne 6, 3) := by decide +kernel
theorem dX9_when_13 : decode cX9_when 13 = .ok (.bipush (-9), 2) := by decide +kernel
theorem dX9_when_15 : decode cX9_when 15 = .ok (.ireturn, 1) := by decide +kernel
theorem dX9_when_16 : decode cX9_when 16 = .ok (.iload_n 1, 1) := by decide +kernel
theorem dX9_when_17 : decode cX9_when 17 = .ok (.aload_n 0, 1) := by decide +kernel
theorem dX9_when_18 : decode cX9_when 18 = .ok (.getfield 54, 3) := by decide +kernel
theorem dX9_when_21 : decode cX9_when 21 = .ok (.iconst 1, 1) := by decide +kernel
theorem dX9_when_22 : decode cX9_when 22 = .ok (.invokevirtual 229, 3) := by decide +kernel
theorem dX9_when_25 : decode cX9_when 25 = .ok (.if_icmp .gt 7, 3) := by decide +kernel
theorem dX9_when_28 : decode cX9_when 28 = .ok (.iconst 0, 1) := by decide +kernel
theorem dX9_when_29 : decode cX9_when 29 = .ok (.goto 4, 3) := by decide +kernel
theorem dX9_when_32 : decode cX9_when 32 = .ok (.iconst 1, 1) := by decide +kernel
theorem dX9_when_33 : decode cX9_when 33 = .ok (.ireturn, 1) := by decide +kernel
set_option maxRecDepth 20000 in
theorem ggX9_mark_X9_isStreet : GoodIn wsX9_mark wsX9_isStreet := goodIn_r _ [6, 7, 8, 9, 10, 5, 11, 95, 96, 97, 98, 99, 100, 101, 102, 103, 104, 105, 106, 107, 108, 109, 110, 111, 112, 113, 114, 115, 116, 117, 118, 119, 120, 121] (by decide +kernel) (by decide +kernel)
set_option maxRecDepth 20000 in
theorem gX9_mark_X9_isStreet : GoodIn wsX9_mark (wsV RX9 87 RX9 yX9_isStreet wsX9_isStreet) := goodIn_app (goodIn_of _ (by decide +kernel)) ggX9_mark_X9_isStreet
set_option maxRecDepth 20000 in
theorem ggX9_mark_X9_markAsStreet : GoodIn wsX9_mark wsX9_markAsStreet := goodIn_r _ [15, 16, 17, 18, 19, 20, 21, 22, 23, 24, 25, 26, 27, 28, 29, 30, 31, 32, 33, 95, 96, 97, 98, 99, 100, 101, 102, 103, 104, 122, 123, 124, 125, 126, 127, 128, 129] (by decide +kernel) (by decide +kernel)
set_option maxRecDepth 20000 in
theorem gX9_mark_X9_markAsStreet : GoodIn wsX9_mark (wsV RX9 233 RX9 yX9_markAsStreet wsX9_markAsStreet) := goodIn_app (goodIn_of _ (by decide +kernel)) ggX9_mark_X9_markAsStreet
set_option maxRecDepth 20000 in
theorem ggX9_mark_X9_markAsCross : GoodIn wsX9_mark wsX9_markAsCross := goodIn_r _ [37, 16, 38, 12, 13, 14, 5, 15, 17, 18, 19, 20, 21, 22, 23, 24, 25, 26, 27, 28, 29, 30, 31, 32, 33, 39, 40, 41, 42, 43, 44, 45, 46, 7, 47, 48, 49, 50, 51, 52, 53, 54, 55, 56, 57, 58, 59, 95, 96, 97, 98, 99, 100, 101, 102, 103, 104, 122, 123, 124, 125, 126, 127, 128, 129, 105, 106, 107, 108, 109, 110, 111, 112, 113, 114, 115, 116, 117, 118, 119, 120, 121] (by decide +kernel) (by decide +kernel)
set_option maxRecDepth 20000 in
theorem gX9_mark_X9_markAsCross : GoodIn wsX9_mark (wsV RX9 236 RX9 yX9_markAsCross wsX9_markAsCross) := goodIn_app (goodIn_of _ (by decide +kernel)) ggX9_mark_X9_markAsCross
set_option maxRecDepth 20000 in
theorem ggX9_mark_X9_markAsLane : GoodIn wsX9_mark wsX9_markAsLane := goodIn_r _ [63, 16, 64, 17, 18, 65, 12, 13, 14, 5, 15, 19, 20, 21, 22, 23, 24, 25, 26, 27, 28, 29, 30, 31, 32, 33, 95, 96, 97, 98, 99, 100, 101, 102, 103, 104, 122, 123, 124, 125, 126, 127, 128, 129] (by decide +kernel) (by decide +kernel)
set_option maxRecDepth 20000 in
theorem gX9_mark_X9_markAsLane : GoodIn wsX9_mark (wsV RX9 239 RX9 yX9_markAsLane wsX9_markAsLane) := goodIn_app (goodIn_of _ (by decide +kernel)) ggX9_mark_X9_markAsLane
set_option maxRecDepth 20000 in
theorem ggX9_mark_X9_markAsBoulevard : GoodIn wsX9_mark wsX9_markAsBoulevard := goodIn_r _ [69, 16, 70, 34, 35, 36, 5, 37, 38, 12, 13, 14, 15, 17, 18, 19, 20, 21, 22, 23, 24, 25, 26, 27, 28, 29, 30, 31, 32, 33, 39, 40, 41, 42, 43, 44, 45, 46, 7, 47, 48, 49, 50, 51, 52, 53, 54, 55, 56, 57, 58, 59, 95, 96, 97, 98, 99, 100, 101, 102, 103, 104, 122, 123, 124, 125, 126, 127, 128, 129, 105, 106, 107, 108, 109, 110, 111, 112, 113, 114, 115, 116, 117, 118, 119, 120, 121] (by decide +kernel) (by decide +kernel)
set_option maxRecDepth 20000 in
theorem gX9_mark_X9_markAsBoulevard : GoodIn wsX9_mark (wsV RX9 242 RX9 yX9_markAsBoulevard wsX9_markAsBoulevard) := goodIn_app (goodIn_of _ (by decide +kernel)) ggX9_mark_X9_markAsBoulevard
set_option maxRecDepth 20000 in
theorem ggX9_mark_X9_markAsCourt : GoodIn wsX9_mark wsX9_markAsCourt := goodIn_r _ [74, 16, 75, 60, 61, 62, 5, 63, 64, 17, 18, 65, 12, 13, 14, 15, 19, 20, 21, 22, 23, 24, 25, 26, 27, 28, 29, 30, 31, 32, 33, 95, 96, 97, 98, 99, 100, 101, 102, 103, 104, 122, 123, 124, 125, 126, 127, 128, 129] (by decide +kernel) (by decide +kernel)
set_option maxRecDepth 20000 in
theorem gX9_mark_X9_markAsCourt : GoodIn wsX9_mark (wsV RX9 245 RX9 yX9_markAsCourt wsX9_markAsCourt) := goodIn_app (goodIn_of _ (by decide +kernel)) ggX9_mark_X9_markAsCourt
set_option maxRecDepth 20000 in
theorem ggX9_mark_X9_markAsAlley : GoodIn wsX9_mark wsX9_markAsAlley := goodIn_r _ [79, 16, 80, 12, 13, 14, 5, 15, 17, 18, 19, 20, 21, 22, 23, 24, 25, 26, 27, 28, 29, 30, 31, 32, 33, 81, 82, 83, 84, 7, 8, 85, 86, 87, 88, 89, 90, 91, 92, 93, 94, 53, 54, 55, 56, 57, 58, 59, 95, 96, 97, 98, 99, 100, 101, 102, 103, 104, 122, 123, 124, 125, 126, 127, 128, 129, 105, 106, 107, 108, 109, 110, 111, 112, 113, 114, 115, 116, 117, 118, 119, 120, 121] (by decide +kernel) (by decide +kernel)
set_option maxRecDepth 20000 in
theorem gX9_mark_X9_markAsAlley : GoodIn wsX9_mark (wsV RX9 248 RX9 yX9_markAsAlley wsX9_markAsAlley) := goodIn_app (goodIn_of _ (by decide +kernel)) ggX9_mark_X9_markAsAlley
theorem dX9_mark_0 : decode cX9_mark 0 = .ok (.aload_n 0, 1) := by decide +kernel
theorem dX9_mark_1 : decode cX9_mark 1 = .ok (.iload_n 2, 1) := by decide +kernel
theorem dX9_mark_2 : decode cX9_mark 2 = .ok (.invokevirtual 87, 3) := by decide +kernel
theorem dX9_mark_5 : decode cX9_mark 5 = .ok (.ifCond .ne 6, 3) := by decide +kernel
theorem dX9_mark_8 : decode cX9_mark 8 = .ok (.ldc 232, 2) := by decide +kernel
theorem dX9_mark_10 : decode cX9_mark 10 = .ok (.ireturn, 1) := by decide +kernel
theorem dX9_mark_11 : decode cX9_mark 11 = .ok (.iload_n 1, 1) := by decide +kernel
theorem dX9_mark_12 : decode cX9_mark 12 = .ok (.tableswitch 76 0 5 #[40, 46, 52, 58, 64, 70], 40) := by decide +kernel
theorem dX9_mark_52 : decode cX9_mark 52 = .ok (.aload_n 0, 1) := by decide +kernel
theorem dX9_mark_53 : decode cX9_mark 53 = .ok (.iload_n 2, 1) := by decide +kernel
theorem dX9_mark_54 : decode cX9_mark 54 = .ok (.invokevirtual 233, 3) := by decide +kernel
theorem dX9_mark_57 : decode cX9_mark 57 = .ok (.ireturn, 1) := by decide +kernel
theorem dX9_mark_58 : decode cX9_mark 58 = .ok (.aload_n 0, 1) := by decide +kernel
theorem dX9_mark_59 : decode cX9_mark 59 = .ok (.iload_n 2, 1) := by decide +kernel
theorem dX9_mark_60 : decode cX9_mark 60 = .ok (.invokevirtual 236, 3) := by decide +kernel
theorem dX9_mark_63 : decode cX9_mark 63 = .ok (.ireturn, 1) := by decide +kernel
theorem dX9_mark_64 : decode cX9_mark 64 = .ok (.aload_n 0, 1) := by decide +kernel
theorem dX9_mark_65 : decode cX9_mark 65 = .ok (.iload_n 2, 1) := by decide +kernel
theorem dX9_mark_66 : decode cX9_mark 66 = .ok (.invokevirtual 239, 3) := by decide +kernel
theorem dX9_mark_69 : decode cX9_mark 69 = .ok (.ireturn, 1) := by decide +kernel
theorem dX9_mark_70 : decode cX9_mark 70 = .ok (.aload_n 0, 1) := by decide +kernel
theorem dX9_mark_71 : decode cX9_mark 71 = .ok (.iload_n 2, 1) := by decide +kernel
theorem dX9_mark_72 : decode cX9_mark 72 = .ok (.invokevirtual 242, 3) := by decide +kernel
theorem dX9_mark_75 : decode cX9_mark 75 = .ok (.ireturn, 1) := by decide +kernel
theorem dX9_mark_76 : decode cX9_mark 76 = .ok (.aload_n 0, 1) := by decide +kernel
theorem dX9_mark_77 : decode cX9_mark 77 = .ok (.iload_n 2, 1) := by decide +kernel
theorem dX9_mark_78 : decode cX9_mark 78 = .ok (.invokevirtual 245, 3) := by decide +kernel
theorem dX9_mark_81 : decode cX9_mark 81 = .ok (.ireturn, 1) := by decide +kernel
theorem dX9_mark_82 : decode cX9_mark 82 = .ok (.aload_n 0, 1) := by decide +kernel
theorem dX9_mark_83 : decode cX9_mark 83 = .ok (.iload_n 2, 1) := by decide +kernel
theorem dX9_mark_84 : decode cX9_mark 84 = .ok (.invokevirtual 248, 3) := by decide +kernel
theorem dX9_mark_87 : decode cX9_mark 87 = .ok (.ireturn, 1) := by decide +kernel
theorem dX9_mark_88 : decode cX9_mark 88 = .ok (.ldc 232, 2) := by decide +kernel
theorem dX9_mark_90 : decode cX9_mark 90 = .ok (.ireturn, 1) := by decide +kernel
set_option maxRecDepth 20000 in
theorem ggX9_keep_X9_isWithin : GoodIn wsX9_keep wsX9_isWithin := goodIn_r _ [9] (by decide +kernel) (by decide +kernel)
set_option maxRecDepth 20000 in
theorem gX9_keep_X9_isWithin : GoodIn wsX9_keep (va_wsS RX9 58 yX9_isWithin wsX9_isWithin) := goodIn_app (goodIn_of _ (by decide +kernel)) ggX9_keep_X9_isWithin
set_option maxRecDepth 20000 in
theorem ggX9_keep_X3_become : GoodIn wsX9_keep wsX3_become := goodIn_r _ [14, 15, 16, 17, 18, 19, 20, 21, 22, 23, 24, 25, 26, 27, 28, 29, 30, 31, 42, 43, 44, 45, 46, 47, 48, 49] (by decide +kernel) (by decide +kernel)
set_option maxRecDepth 20000 in
theorem gX9_keep_X3_become : GoodIn wsX9_keep (wsV RX9 251 RX3 yX3_become wsX3_become) := goodIn_app (goodIn_of _ (by decide +kernel)) ggX9_keep_X3_become
theorem dX9_keep_0 : decode cX9_keep 0 = .ok (.iload_n 1, 1) := by decide +kernel
theorem dX9_keep_1 : decode cX9_keep 1 = .ok (.iconst 0, 1) := by decide +kernel
theorem dX9_keep_2 : decode cX9_keep 2 = .ok (.iconst 1, 1) := by decide +kernel
theorem dX9_keep_3 : decode cX9_keep 3 = .ok (.invokestatic 58, 3) := by decide +kernel
theorem dX9_keep_6 : decode cX9_keep 6 = .ok (.ifCond .ne 5, 3) := by decide +kernel
theorem dX9_keep_9 : decode cX9_keep 9 = .ok (.iconst (-1), 1) := by decide +kernel
theorem dX9_keep_10 : decode cX9_keep 10 = .ok (.ireturn, 1) := by decide +kernel
theorem dX9_keep_11 : decode cX9_keep 11 = .ok (.aload_n 0, 1) := by decide +kernel
theorem dX9_keep_12 : decode cX9_keep 12 = .ok (.getfield 33, 3) := by decide +kernel
theorem dX9_keep_15 : decode cX9_keep 15 = .ok (.iload_n 1, 1) := by decide +kernel
theorem dX9_keep_16 : decode cX9_keep 16 = .ok (.aaload, 1) := by decide +kernel
theorem dX9_keep_17 : decode cX9_keep 17 = .ok (.aload_n 0, 1) := by decide +kernel
theorem dX9_keep_18 : decode cX9_keep 18 = .ok (.getfield 29, 3) := by decide +kernel
theorem dX9_keep_21 : decode cX9_keep 21 = .ok (.invokevirtual 251, 3) := by decide +kernel
theorem dX9_keep_24 : decode cX9_keep 24 = .ok (.aload_n 0, 1) := by decide +kernel
theorem dX9_keep_25 : decode cX9_keep 25 = .ok (.dup, 1) := by decide +kernel
theorem dX9_keep_26 : decode cX9_keep 26 = .ok (.getfield 81, 3) := by decide +kernel
theorem dX9_keep_29 : decode cX9_keep 29 = .ok (.iconst 1, 1) := by decide +kernel
theorem dX9_keep_30 : decode cX9_keep 30 = .ok (.iload_n 1, 1) := by decide +kernel
theorem dX9_keep_31 : decode cX9_keep 31 = .ok (.ishl, 1) := by decide +kernel
theorem dX9_keep_32 : decode cX9_keep 32 = .ok (.ior, 1) := by decide +kernel
theorem dX9_keep_33 : decode cX9_keep 33 = .ok (.putfield 81, 3) := by decide +kernel
theorem dX9_keep_36 : decode cX9_keep 36 = .ok (.aload_n 0, 1) := by decide +kernel
theorem dX9_keep_37 : decode cX9_keep 37 = .ok (.getfield 29, 3) := by decide +kernel
theorem dX9_keep_40 : decode cX9_keep 40 = .ok (.getfield 98, 3) := by decide +kernel
theorem dX9_keep_43 : decode cX9_keep 43 = .ok (.getfield 144, 3) := by decide +kernel
theorem dX9_keep_46 : decode cX9_keep 46 = .ok (.ireturn, 1) := by decide +kernel
set_option maxRecDepth 20000 in
theorem ggX9_back_X9_isWithin : GoodIn wsX9_back wsX9_isWithin := goodIn_r _ [9] (by decide +kernel) (by decide +kernel)
set_option maxRecDepth 20000 in
theorem gX9_back_X9_isWithin : GoodIn wsX9_back (va_wsS RX9 58 yX9_isWithin wsX9_isWithin) := goodIn_app (goodIn_of _ (by decide +kernel)) ggX9_back_X9_isWithin
set_option maxRecDepth 20000 in
theorem ggX9_back_X5_has : GoodIn wsX9_back wsX5_has := goodIn_r _ [13] (by decide +kernel) (by decide +kernel)
set_option maxRecDepth 20000 in
theorem gX9_back_X5_has : GoodIn wsX9_back (va_wsS RX9 254 yX5_has wsX5_has) := goodIn_app (goodIn_of _ (by decide +kernel)) ggX9_back_X5_has
set_option maxRecDepth 20000 in
theorem ggX9_back_X3_become : GoodIn wsX9_back wsX3_become := goodIn_r _ [18, 19, 20, 21, 22, 23, 24, 25, 26, 27, 28, 29, 30, 31, 32, 33, 34, 35, 46, 47, 48, 49, 50, 51, 52, 53] (by decide +kernel) (by decide +kernel)
set_option maxRecDepth 20000 in
theorem gX9_back_X3_become : GoodIn wsX9_back (wsV RX9 251 RX3 yX3_become wsX3_become) := goodIn_app (goodIn_of _ (by decide +kernel)) ggX9_back_X3_become
theorem dX9_back_0 : decode cX9_back 0 = .ok (.iload_n 1, 1) := by decide +kernel
theorem dX9_back_1 : decode cX9_back 1 = .ok (.iconst 0, 1) := by decide +kernel
theorem dX9_back_2 : decode cX9_back 2 = .ok (.iconst 1, 1) := by decide +kernel
theorem dX9_back_3 : decode cX9_back 3 = .ok (.invokestatic 58, 3) := by decide +kernel
theorem dX9_back_6 : decode cX9_back 6 = .ok (.ifCond .ne 5, 3) := by decide +kernel
theorem dX9_back_9 : decode cX9_back 9 = .ok (.iconst (-1), 1) := by decide +kernel
theorem dX9_back_10 : decode cX9_back 10 = .ok (.ireturn, 1) := by decide +kernel
theorem dX9_back_11 : decode cX9_back 11 = .ok (.aload_n 0, 1) := by decide +kernel
theorem dX9_back_12 : decode cX9_back 12 = .ok (.getfield 81, 3) := by decide +kernel
theorem dX9_back_15 : decode cX9_back 15 = .ok (.iload_n 1, 1) := by decide +kernel
theorem dX9_back_16 : decode cX9_back 16 = .ok (.invokestatic 254, 3) := by decide +kernel
theorem dX9_back_19 : decode cX9_back 19 = .ok (.ifCond .ne 6, 3) := by decide +kernel
theorem dX9_back_22 : decode cX9_back 22 = .ok (.bipush (-2), 2) := by decide +kernel
theorem dX9_back_24 : decode cX9_back 24 = .ok (.ireturn, 1) := by decide +kernel
theorem dX9_back_25 : decode cX9_back 25 = .ok (.aload_n 0, 1) := by decide +kernel
theorem dX9_back_26 : decode cX9_back 26 = .ok (.getfield 29, 3) := by decide +kernel
theorem dX9_back_29 : decode cX9_back 29 = .ok (.aload_n 0, 1) := by decide +kernel
theorem dX9_back_30 : decode cX9_back 30 = .ok (.getfield 33, 3) := by decide +kernel
theorem dX9_back_33 : decode cX9_back 33 = .ok (.iload_n 1, 1) := by decide +kernel
theorem dX9_back_34 : decode cX9_back 34 = .ok (.aaload, 1) := by decide +kernel
theorem dX9_back_35 : decode cX9_back 35 = .ok (.invokevirtual 251, 3) := by decide +kernel
theorem dX9_back_38 : decode cX9_back 38 = .ok (.aload_n 0, 1) := by decide +kernel
theorem dX9_back_39 : decode cX9_back 39 = .ok (.getfield 29, 3) := by decide +kernel
theorem dX9_back_42 : decode cX9_back 42 = .ok (.getfield 98, 3) := by decide +kernel
theorem dX9_back_45 : decode cX9_back 45 = .ok (.getfield 144, 3) := by decide +kernel
theorem dX9_back_48 : decode cX9_back 48 = .ok (.ireturn, 1) := by decide +kernel
theorem dX9_count_0 : decode cX9_count 0 = .ok (.iload_n 1, 1) := by decide +kernel
theorem dX9_count_1 : decode cX9_count 1 = .ok (.tableswitch 87 0 5 #[39, 47, 55, 63, 71, 79], 39) := by decide +kernel
theorem dX9_count_40 : decode cX9_count 40 = .ok (.aload_n 0, 1) := by decide +kernel
theorem dX9_count_41 : decode cX9_count 41 = .ok (.getfield 23, 3) := by decide +kernel
theorem dX9_count_44 : decode cX9_count 44 = .ok (.getfield 257, 3) := by decide +kernel
theorem dX9_count_47 : decode cX9_count 47 = .ok (.ireturn, 1) := by decide +kernel
theorem dX9_count_48 : decode cX9_count 48 = .ok (.aload_n 0, 1) := by decide +kernel
theorem dX9_count_49 : decode cX9_count 49 = .ok (.getfield 23, 3) := by decide +kernel
theorem dX9_count_52 : decode cX9_count 52 = .ok (.getfield 189, 3) := by decide +kernel
theorem dX9_count_55 : decode cX9_count 55 = .ok (.ireturn, 1) := by decide +kernel
theorem dX9_count_56 : decode cX9_count 56 = .ok (.aload_n 0, 1) := by decide +kernel
theorem dX9_count_57 : decode cX9_count 57 = .ok (.getfield 23, 3) := by decide +kernel
theorem dX9_count_60 : decode cX9_count 60 = .ok (.getfield 260, 3) := by decide +kernel
theorem dX9_count_63 : decode cX9_count 63 = .ok (.ireturn, 1) := by decide +kernel
theorem dX9_count_64 : decode cX9_count 64 = .ok (.aload_n 0, 1) := by decide +kernel
theorem dX9_count_65 : decode cX9_count 65 = .ok (.getfield 54, 3) := by decide +kernel
theorem dX9_count_68 : decode cX9_count 68 = .ok (.getfield 84, 3) := by decide +kernel
theorem dX9_count_71 : decode cX9_count 71 = .ok (.ireturn, 1) := by decide +kernel
theorem dX9_count_72 : decode cX9_count 72 = .ok (.aload_n 0, 1) := by decide +kernel
theorem dX9_count_73 : decode cX9_count 73 = .ok (.getfield 29, 3) := by decide +kernel
theorem dX9_count_76 : decode cX9_count 76 = .ok (.getfield 151, 3) := by decide +kernel
theorem dX9_count_79 : decode cX9_count 79 = .ok (.ireturn, 1) := by decide +kernel
theorem dX9_count_80 : decode cX9_count 80 = .ok (.aload_n 0, 1) := by decide +kernel
theorem dX9_count_81 : decode cX9_count 81 = .ok (.getfield 10, 3) := by decide +kernel
theorem dX9_count_84 : decode cX9_count 84 = .ok (.getfield 62, 3) := by decide +kernel
theorem dX9_count_87 : decode cX9_count 87 = .ok (.ireturn, 1) := by decide +kernel
theorem dX9_count_88 : decode cX9_count 88 = .ok (.iconst (-1), 1) := by decide +kernel
theorem dX9_count_89 : decode cX9_count 89 = .ok (.ireturn, 1) := by decide +kernel
theorem dX9_trace_0 : decode cX9_trace 0 = .ok (.aload_n 0, 1) := by decide +kernel
theorem dX9_trace_1 : decode cX9_trace 1 = .ok (.getfield 263, 3) := by decide +kernel
theorem dX9_trace_4 : decode cX9_trace 4 = .ok (.lreturn, 1) := by decide +kernel
set_option maxRecDepth 20000 in
theorem ggX9_markAsStreet_X2_widthOf : GoodIn wsX9_markAsStreet wsX2_widthOf := goodIn_r _ [8, 9, 10, 11, 12, 13, 7, 14, 15, 16, 17, 18, 32, 33, 34, 35, 36] (by decide +kernel) (by decide +kernel)
set_option maxRecDepth 20000 in
theorem gX9_markAsStreet_X2_widthOf : GoodIn wsX9_markAsStreet (wsV RX9 113 RX2 yX2_widthOf wsX2_widthOf) := goodIn_app (goodIn_of _ (by decide +kernel)) ggX9_markAsStreet_X2_widthOf
theorem dX9_markAsStreet_0 : decode cX9_markAsStreet 0 = .ok (.aload_n 0, 1) := by decide +kernel
theorem dX9_markAsStreet_1 : decode cX9_markAsStreet 1 = .ok (.dup, 1) := by decide +kernel
theorem dX9_markAsStreet_2 : decode cX9_markAsStreet 2 = .ok (.getfield 263, 3) := by decide +kernel
theorem dX9_markAsStreet_5 : decode cX9_markAsStreet 5 = .ok (.lconst 1, 1) := by decide +kernel
theorem dX9_markAsStreet_6 : decode cX9_markAsStreet 6 = .ok (.ladd, 1) := by decide +kernel
theorem dX9_markAsStreet_7 : decode cX9_markAsStreet 7 = .ok (.putfield 263, 3) := by decide +kernel
theorem dX9_markAsStreet_10 : decode cX9_markAsStreet 10 = .ok (.aload_n 0, 1) := by decide +kernel
theorem dX9_markAsStreet_11 : decode cX9_markAsStreet 11 = .ok (.getfield 29, 3) := by decide +kernel
theorem dX9_markAsStreet_14 : decode cX9_markAsStreet 14 = .ok (.getfield 98, 3) := by decide +kernel
theorem dX9_markAsStreet_17 : decode cX9_markAsStreet 17 = .ok (.iload_n 1, 1) := by decide +kernel
theorem dX9_markAsStreet_18 : decode cX9_markAsStreet 18 = .ok (.invokevirtual 113, 3) := by decide +kernel
theorem dX9_markAsStreet_21 : decode cX9_markAsStreet 21 = .ok (.ireturn, 1) := by decide +kernel
set_option maxRecDepth 20000 in
theorem ggX9_markAsCross_X9_markAsStreet : GoodIn wsX9_markAsCross wsX9_markAsStreet := goodIn_r _ [7, 1, 8, 9, 10, 11, 12, 13, 14, 15, 16, 17, 18, 19, 20, 21, 22, 23, 24, 47, 48, 49, 50, 51, 52, 53, 54, 55, 56, 57, 58, 59, 60, 61, 62, 63, 64] (by decide +kernel) (by decide +kernel)
set_option maxRecDepth 20000 in
theorem gX9_markAsCross_X9_markAsStreet : GoodIn wsX9_markAsCross (wsV RX9 233 RX9 yX9_markAsStreet wsX9_markAsStreet) := goodIn_app (goodIn_of _ (by decide +kernel)) ggX9_markAsCross_X9_markAsStreet
set_option maxRecDepth 20000 in
theorem ggX9_markAsCross_X9_livingIn : GoodIn wsX9_markAsCross wsX9_livingIn := goodIn_r _ [28, 29, 30, 31, 6, 32, 33, 34, 8, 9, 35, 36, 37, 38, 39, 47, 48, 49, 50, 51, 52, 53, 54, 55, 56, 65, 66, 67, 68, 69, 70, 71, 72, 73, 74, 75, 76, 77, 78, 79, 80, 81, 57, 58, 59, 60, 61, 62, 63, 64] (by decide +kernel) (by decide +kernel)
set_option maxRecDepth 20000 in
theorem gX9_markAsCross_X9_livingIn : GoodIn wsX9_markAsCross (wsV RX9 117 RX9 yX9_livingIn wsX9_livingIn) := goodIn_app (goodIn_of _ (by decide +kernel)) ggX9_markAsCross_X9_livingIn
set_option maxRecDepth 20000 in
theorem ggX9_markAsCross_J6_bitCount_0f7a4 : GoodIn wsX9_markAsCross wsJ6_bitCount_0f7a4 := goodIn_r _ [43, 44, 45, 46] (by decide +kernel) (by decide +kernel)
set_option maxRecDepth 20000 in
theorem gX9_markAsCross_J6_bitCount_0f7a4 : GoodIn wsX9_markAsCross (va_wsS RX9 135 yJ6_bitCount_0f7a4 wsJ6_bitCount_0f7a4) := goodIn_app (goodIn_of _ (by decide +kernel)) ggX9_markAsCross_J6_bitCount_0f7a4
theorem dX9_markAsCross_0 : decode cX9_markAsCross 0 = .ok (.aload_n 0, 1) := by decide +kernel
theorem dX9_markAsCross_1 : decode cX9_markAsCross 1 = .ok (.dup, 1) := by decide +kernel
theorem dX9_markAsCross_2 : decode cX9_markAsCross 2 = .ok (.getfield 263, 3) := by decide +kernel
theorem dX9_markAsCross_5 : decode cX9_markAsCross 5 = .ok (.ldc2_w 267, 3) := by decide +kernel
theorem dX9_markAsCross_8 : decode cX9_markAsCross 8 = .ok (.ladd, 1) := by decide +kernel
theorem dX9_markAsCross_9 : decode cX9_markAsCross 9 = .ok (.putfield 263, 3) := by decide +kernel
theorem dX9_markAsCross_12 : decode cX9_markAsCross 12 = .ok (.aload_n 0, 1) := by decide +kernel
theorem dX9_markAsCross_13 : decode cX9_markAsCross 13 = .ok (.iload_n 1, 1) := by decide +kernel
theorem dX9_markAsCross_14 : decode cX9_markAsCross 14 = .ok (.invokevirtual 233, 3) := by decide +kernel
theorem dX9_markAsCross_17 : decode cX9_markAsCross 17 = .ok (.aload_n 0, 1) := by decide +kernel
theorem dX9_markAsCross_18 : decode cX9_markAsCross 18 = .ok (.iload_n 1, 1) := by decide +kernel
theorem dX9_markAsCross_19 : decode cX9_markAsCross 19 = .ok (.invokevirtual 117, 3) := by decide +kernel
theorem dX9_markAsCross_22 : decode cX9_markAsCross 22 = .ok (.invokestatic 135, 3) := by decide +kernel
theorem dX9_markAsCross_25 : decode cX9_markAsCross 25 = .ok (.iadd, 1) := by decide +kernel
theorem dX9_markAsCross_26 : decode cX9_markAsCross 26 = .ok (.ireturn, 1) := by decide +kernel
set_option maxRecDepth 20000 in
theorem ggX9_markAsLane_X9_markAsStreet : GoodIn wsX9_markAsLane wsX9_markAsStreet := goodIn_r _ [10, 1, 3, 4, 11, 12, 13, 14, 15, 16, 17, 18, 19, 20, 21, 22, 23, 24, 25, 26, 27, 28, 29, 30, 31, 32, 33, 34, 35, 36, 37, 38, 39, 40, 41, 42, 43] (by decide +kernel) (by decide +kernel)
set_option maxRecDepth 20000 in
theorem gX9_markAsLane_X9_markAsStreet : GoodIn wsX9_markAsLane (wsV RX9 233 RX9 yX9_markAsStreet wsX9_markAsStreet) := goodIn_app (goodIn_of _ (by decide +kernel)) ggX9_markAsLane_X9_markAsStreet
theorem dX9_markAsLane_0 : decode cX9_markAsLane 0 = .ok (.aload_n 0, 1) := by decide +kernel
theorem dX9_markAsLane_1 : decode cX9_markAsLane 1 = .ok (.dup, 1) := by decide +kernel
theorem dX9_markAsLane_2 : decode cX9_markAsLane 2 = .ok (.getfield 263, 3) := by decide +kernel
theorem dX9_markAsLane_5 : decode cX9_markAsLane 5 = .ok (.ldc2_w 269, 3) := by decide +kernel
theorem dX9_markAsLane_8 : decode cX9_markAsLane 8 = .ok (.ladd, 1) := by decide +kernel
theorem dX9_markAsLane_9 : decode cX9_markAsLane 9 = .ok (.putfield 263, 3) := by decide +kernel
theorem dX9_markAsLane_12 : decode cX9_markAsLane 12 = .ok (.aload_n 0, 1) := by decide +kernel
theorem dX9_markAsLane_13 : decode cX9_markAsLane 13 = .ok (.iload_n 1, 1) := by decide +kernel
theorem dX9_markAsLane_14 : decode cX9_markAsLane 14 = .ok (.invokevirtual 233, 3) := by decide +kernel
theorem dX9_markAsLane_17 : decode cX9_markAsLane 17 = .ok (.aload_n 0, 1) := by decide +kernel
theorem dX9_markAsLane_18 : decode cX9_markAsLane 18 = .ok (.getfield 29, 3) := by decide +kernel
theorem dX9_markAsLane_21 : decode cX9_markAsLane 21 = .ok (.getfield 98, 3) := by decide +kernel
theorem dX9_markAsLane_24 : decode cX9_markAsLane 24 = .ok (.getfield 107, 3) := by decide +kernel
theorem dX9_markAsLane_27 : decode cX9_markAsLane 27 = .ok (.iload_n 1, 1) := by decide +kernel
theorem dX9_markAsLane_28 : decode cX9_markAsLane 28 = .ok (.iaload, 1) := by decide +kernel
theorem dX9_markAsLane_29 : decode cX9_markAsLane 29 = .ok (.isub, 1) := by decide +kernel
theorem dX9_markAsLane_30 : decode cX9_markAsLane 30 = .ok (.ireturn, 1) := by decide +kernel
set_option maxRecDepth 20000 in
theorem ggX9_markAsBoulevard_X9_markAsCross : GoodIn wsX9_markAsBoulevard wsX9_markAsCross := goodIn_r _ [7, 1, 8, 9, 10, 11, 6, 12, 13, 14, 15, 16, 17, 18, 19, 20, 21, 22, 23, 24, 25, 26, 27, 28, 29, 30, 31, 32, 33, 34, 35, 36, 37, 38, 39, 40, 41, 42, 43, 44, 45, 46, 47, 48, 49, 50, 51, 52, 53, 54, 55, 56, 57, 58, 59, 60, 61, 62, 63, 64, 65, 66, 67, 68, 69, 70, 71, 72, 73, 74, 75, 76, 77, 78, 79, 80, 81, 82, 83, 84, 85, 86] (by decide +kernel) (by decide +kernel)
set_option maxRecDepth 20000 in
theorem gX9_markAsBoulevard_X9_markAsCross : GoodIn wsX9_markAsBoulevard (wsV RX9 236 RX9 yX9_markAsCross wsX9_markAsCross) := goodIn_app (goodIn_of _ (by decide +kernel)) ggX9_markAsBoulevard_X9_markAsCross
theorem dX9_markAsBoulevard_0 : decode cX9_markAsBoulevard 0 = .ok (.aload_n 0, 1) := by decide +kernel
theorem dX9_markAsBoulevard_1 : decode cX9_markAsBoulevard 1 = .ok (.dup, 1) := by decide +kernel
theorem dX9_markAsBoulevard_2 : decode cX9_markAsBoulevard 2 = .ok (.getfield 263, 3) := by decide +kernel
theorem dX9_markAsBoulevard_5 : decode cX9_markAsBoulevard 5 = .ok (.ldc2_w 271, 3) := by decide +kernel
theorem dX9_markAsBoulevard_8 : decode cX9_markAsBoulevard 8 = .ok (.ladd, 1) := by decide +kernel
theorem dX9_markAsBoulevard_9 : decode cX9_markAsBoulevard 9 = .ok (.putfield 263, 3) := by decide +kernel
theorem dX9_markAsBoulevard_12 : decode cX9_markAsBoulevard 12 = .ok (.aload_n 0, 1) := by decide +kernel
theorem dX9_markAsBoulevard_13 : decode cX9_markAsBoulevard 13 = .ok (.iload_n 1, 1) := by decide +kernel
theorem dX9_markAsBoulevard_14 : decode cX9_markAsBoulevard 14 = .ok (.invokevirtual 236, 3) := by decide +kernel
theorem dX9_markAsBoulevard_17 : decode cX9_markAsBoulevard 17 = .ok (.iconst 2, 1) := by decide +kernel
theorem dX9_markAsBoulevard_18 : decode cX9_markAsBoulevard 18 = .ok (.imul, 1) := by decide +kernel
theorem dX9_markAsBoulevard_19 : decode cX9_markAsBoulevard 19 = .ok (.ireturn, 1) := by decide +kernel
set_option maxRecDepth 20000 in
theorem ggX9_markAsCourt_X9_markAsLane : GoodIn wsX9_markAsCourt wsX9_markAsLane := goodIn_r _ [7, 1, 8, 9, 10, 11, 12, 13, 14, 6, 15, 16, 17, 18, 19, 20, 21, 22, 23, 24, 25, 26, 27, 28, 29, 30, 31, 32, 33, 34, 35, 36, 37, 38, 39, 40, 41, 42, 43, 44, 45, 46, 47, 48] (by decide +kernel) (by decide +kernel)
set_option maxRecDepth 20000 in
theorem gX9_markAsCourt_X9_markAsLane : GoodIn wsX9_markAsCourt (wsV RX9 239 RX9 yX9_markAsLane wsX9_markAsLane) := goodIn_app (goodIn_of _ (by decide +kernel)) ggX9_markAsCourt_X9_markAsLane
theorem dX9_markAsCourt_0 : decode cX9_markAsCourt 0 = .ok (.aload_n 0, 1) := by decide +kernel
theorem dX9_markAsCourt_1 : decode cX9_markAsCourt 1 = .ok (.dup, 1) := by decide +kernel
theorem dX9_markAsCourt_2 : decode cX9_markAsCourt 2 = .ok (.getfield 263, 3) := by decide +kernel
theorem dX9_markAsCourt_5 : decode cX9_markAsCourt 5 = .ok (.ldc2_w 273, 3) := by decide +kernel
theorem dX9_markAsCourt_8 : decode cX9_markAsCourt 8 = .ok (.ladd, 1) := by decide +kernel
theorem dX9_markAsCourt_9 : decode cX9_markAsCourt 9 = .ok (.putfield 263, 3) := by decide +kernel
theorem dX9_markAsCourt_12 : decode cX9_markAsCourt 12 = .ok (.aload_n 0, 1) := by decide +kernel
theorem dX9_markAsCourt_13 : decode cX9_markAsCourt 13 = .ok (.iload_n 1, 1) := by decide +kernel
theorem dX9_markAsCourt_14 : decode cX9_markAsCourt 14 = .ok (.invokevirtual 239, 3) := by decide +kernel
theorem dX9_markAsCourt_17 : decode cX9_markAsCourt 17 = .ok (.iload_n 1, 1) := by decide +kernel
theorem dX9_markAsCourt_18 : decode cX9_markAsCourt 18 = .ok (.iadd, 1) := by decide +kernel
theorem dX9_markAsCourt_19 : decode cX9_markAsCourt 19 = .ok (.ireturn, 1) := by decide +kernel
set_option maxRecDepth 20000 in
theorem ggX9_markAsAlley_X9_markAsStreet : GoodIn wsX9_markAsAlley wsX9_markAsStreet := goodIn_r _ [7, 1, 8, 9, 10, 11, 12, 13, 14, 15, 16, 17, 18, 19, 20, 21, 22, 23, 24, 48, 49, 50, 51, 52, 53, 54, 55, 56, 57, 58, 59, 60, 61, 62, 63, 64, 65] (by decide +kernel) (by decide +kernel)
set_option maxRecDepth 20000 in
theorem gX9_markAsAlley_X9_markAsStreet : GoodIn wsX9_markAsAlley (wsV RX9 233 RX9 yX9_markAsStreet wsX9_markAsStreet) := goodIn_app (goodIn_of _ (by decide +kernel)) ggX9_markAsAlley_X9_markAsStreet
set_option maxRecDepth 20000 in
theorem ggX9_markAsAlley_X9_streetsAt : GoodIn wsX9_markAsAlley wsX9_streetsAt := goodIn_r _ [28, 29, 30, 31, 32, 33, 34, 35, 36, 37, 38, 39, 40, 48, 49, 50, 51, 52, 53, 54, 55, 56, 57, 66, 67, 68, 69, 70, 71, 72, 73, 74, 75, 76, 77, 78, 79, 80, 81, 82] (by decide +kernel) (by decide +kernel)
set_option maxRecDepth 20000 in
theorem gX9_markAsAlley_X9_streetsAt : GoodIn wsX9_markAsAlley (wsV RX9 277 RX9 yX9_streetsAt wsX9_streetsAt) := goodIn_app (goodIn_of _ (by decide +kernel)) ggX9_markAsAlley_X9_streetsAt
set_option maxRecDepth 20000 in
theorem ggX9_markAsAlley_J6_bitCount_0f7a4 : GoodIn wsX9_markAsAlley wsJ6_bitCount_0f7a4 := goodIn_r _ [44, 45, 46, 47] (by decide +kernel) (by decide +kernel)
set_option maxRecDepth 20000 in
theorem gX9_markAsAlley_J6_bitCount_0f7a4 : GoodIn wsX9_markAsAlley (va_wsS RX9 135 yJ6_bitCount_0f7a4 wsJ6_bitCount_0f7a4) := goodIn_app (goodIn_of _ (by decide +kernel)) ggX9_markAsAlley_J6_bitCount_0f7a4
theorem dX9_markAsAlley_0 : decode cX9_markAsAlley 0 = .ok (.aload_n 0, 1) := by decide +kernel
theorem dX9_markAsAlley_1 : decode cX9_markAsAlley 1 = .ok (.dup, 1) := by decide +kernel
theorem dX9_markAsAlley_2 : decode cX9_markAsAlley 2 = .ok (.getfield 263, 3) := by decide +kernel
theorem dX9_markAsAlley_5 : decode cX9_markAsAlley 5 = .ok (.ldc2_w 275, 3) := by decide +kernel
theorem dX9_markAsAlley_8 : decode cX9_markAsAlley 8 = .ok (.ladd, 1) := by decide +kernel
theorem dX9_markAsAlley_9 : decode cX9_markAsAlley 9 = .ok (.putfield 263, 3) := by decide +kernel
theorem dX9_markAsAlley_12 : decode cX9_markAsAlley 12 = .ok (.aload_n 0, 1) := by decide +kernel
theorem dX9_markAsAlley_13 : decode cX9_markAsAlley 13 = .ok (.iload_n 1, 1) := by decide +kernel
theorem dX9_markAsAlley_14 : decode cX9_markAsAlley 14 = .ok (.invokevirtual 233, 3) := by decide +kernel
theorem dX9_markAsAlley_17 : decode cX9_markAsAlley 17 = .ok (.aload_n 0, 1) := by decide +kernel
theorem dX9_markAsAlley_18 : decode cX9_markAsAlley 18 = .ok (.iload_n 1, 1) := by decide +kernel
theorem dX9_markAsAlley_19 : decode cX9_markAsAlley 19 = .ok (.invokevirtual 277, 3) := by decide +kernel
theorem dX9_markAsAlley_22 : decode cX9_markAsAlley 22 = .ok (.invokestatic 135, 3) := by decide +kernel
theorem dX9_markAsAlley_25 : decode cX9_markAsAlley 25 = .ok (.iadd, 1) := by decide +kernel
theorem dX9_markAsAlley_26 : decode cX9_markAsAlley 26 = .ok (.ireturn, 1) := by decide +kernel
theorem dX9_isWithin_0 : decode cX9_isWithin 0 = .ok (.iload_n 0, 1) := by decide +kernel
theorem dX9_isWithin_1 : decode cX9_isWithin 1 = .ok (.iload_n 1, 1) := by decide +kernel
theorem dX9_isWithin_2 : decode cX9_isWithin 2 = .ok (.if_icmp .lt 12, 3) := by decide +kernel
theorem dX9_isWithin_5 : decode cX9_isWithin 5 = .ok (.iload_n 0, 1) := by decide +kernel
theorem dX9_isWithin_6 : decode cX9_isWithin 6 = .ok (.iload_n 2, 1) := by decide +kernel
theorem dX9_isWithin_7 : decode cX9_isWithin 7 = .ok (.if_icmp .gt 7, 3) := by decide +kernel
theorem dX9_isWithin_10 : decode cX9_isWithin 10 = .ok (.iconst 1, 1) := by decide +kernel
theorem dX9_isWithin_11 : decode cX9_isWithin 11 = .ok (.goto 4, 3) := by decide +kernel
theorem dX9_isWithin_14 : decode cX9_isWithin 14 = .ok (.iconst 0, 1) := by decide +kernel
theorem dX9_isWithin_15 : decode cX9_isWithin 15 = .ok (.ireturn, 1) := by decide +kernel
set_option maxRecDepth 20000 in
theorem ggX9_isStreet_X9_isWithin : GoodIn wsX9_isStreet wsX9_isWithin := goodIn_r _ [6] (by decide +kernel) (by decide +kernel)
set_option maxRecDepth 20000 in
theorem gX9_isStreet_X9_isWithin : GoodIn wsX9_isStreet (va_wsS RX9 58 yX9_isWithin wsX9_isWithin) := goodIn_app (goodIn_of _ (by decide +kernel)) ggX9_isStreet_X9_isWithin
theorem dX9_isStreet_0 : decode cX9_isStreet 0 = .ok (.iload_n 1, 1) := by decide +kernel
theorem dX9_isStreet_1 : decode cX9_isStreet 1 = .ok (.iconst 0, 1) := by decide +kernel
theorem dX9_isStreet_2 : decode cX9_isStreet 2 = .ok (.aload_n 0, 1) := by decide +kernel
theorem dX9_isStreet_3 : decode cX9_isStreet 3 = .ok (.getfield 23, 3) := by decide +kernel
theorem dX9_isStreet_6 : decode cX9_isStreet 6 = .ok (.getfield 189, 3) := by decide +kernel
theorem dX9_isStreet_9 : decode cX9_isStreet 9 = .ok (.iconst 1, 1) := by decide +kernel
theorem dX9_isStreet_10 : decode cX9_isStreet 10 = .ok (.isub, 1) := by decide +kernel
theorem dX9_isStreet_11 : decode cX9_isStreet 11 = .ok (.invokestatic 58, 3) := by decide +kernel
theorem dX9_isStreet_14 : decode cX9_isStreet 14 = .ok (.ireturn, 1) := by decide +kernel
set_option maxRecDepth 20000 in
theorem ggX9_isCitizen_X9_isWithin : GoodIn wsX9_isCitizen wsX9_isWithin := goodIn_r _ [6] (by decide +kernel) (by decide +kernel)
set_option maxRecDepth 20000 in
theorem gX9_isCitizen_X9_isWithin : GoodIn wsX9_isCitizen (va_wsS RX9 58 yX9_isWithin wsX9_isWithin) := goodIn_app (goodIn_of _ (by decide +kernel)) ggX9_isCitizen_X9_isWithin
theorem dX9_isCitizen_0 : decode cX9_isCitizen 0 = .ok (.iload_n 1, 1) := by decide +kernel
theorem dX9_isCitizen_1 : decode cX9_isCitizen 1 = .ok (.iconst 0, 1) := by decide +kernel
theorem dX9_isCitizen_2 : decode cX9_isCitizen 2 = .ok (.aload_n 0, 1) := by decide +kernel
theorem dX9_isCitizen_3 : decode cX9_isCitizen 3 = .ok (.getfield 23, 3) := by decide +kernel
theorem dX9_isCitizen_6 : decode cX9_isCitizen 6 = .ok (.getfield 260, 3) := by decide +kernel
theorem dX9_isCitizen_9 : decode cX9_isCitizen 9 = .ok (.iconst 1, 1) := by decide +kernel
theorem dX9_isCitizen_10 : decode cX9_isCitizen 10 = .ok (.isub, 1) := by decide +kernel
theorem dX9_isCitizen_11 : decode cX9_isCitizen 11 = .ok (.invokestatic 58, 3) := by decide +kernel
theorem dX9_isCitizen_14 : decode cX9_isCitizen 14 = .ok (.ireturn, 1) := by decide +kernel
set_option maxRecDepth 20000 in
theorem ggX9_areUnlikeYards_X9_isWithin : GoodIn wsX9_areUnlikeYards wsX9_isWithin := goodIn_r _ [6] (by decide +kernel) (by decide +kernel)
set_option maxRecDepth 20000 in
theorem gX9_areUnlikeYards_X9_isWithin : GoodIn wsX9_areUnlikeYards (va_wsS RX9 58 yX9_isWithin wsX9_isWithin) := goodIn_app (goodIn_of _ (by decide +kernel)) ggX9_areUnlikeYards_X9_isWithin
theorem dX9_areUnlikeYards_0 : decode cX9_areUnlikeYards 0 = .ok (.iload_n 1, 1) := by decide +kernel
theorem dX9_areUnlikeYards_1 : decode cX9_areUnlikeYards 1 = .ok (.iconst 0, 1) := by decide +kernel
theorem dX9_areUnlikeYards_2 : decode cX9_areUnlikeYards 2 = .ok (.aload_n 0, 1) := by decide +kernel
theorem dX9_areUnlikeYards_3 : decode cX9_areUnlikeYards 3 = .ok (.getfield 23, 3) := by decide +kernel
theorem dX9_areUnlikeYards_6 : decode cX9_areUnlikeYards 6 = .ok (.getfield 257, 3) := by decide +kernel
theorem dX9_areUnlikeYards_9 : decode cX9_areUnlikeYards 9 = .ok (.iconst 1, 1) := by decide +kernel
theorem dX9_areUnlikeYards_10 : decode cX9_areUnlikeYards 10 = .ok (.isub, 1) := by decide +kernel
theorem dX9_areUnlikeYards_11 : decode cX9_areUnlikeYards 11 = .ok (.invokestatic 58, 3) := by decide +kernel
theorem dX9_areUnlikeYards_14 : decode cX9_areUnlikeYards 14 = .ok (.ifCond .eq 29, 3) := by decide +kernel
theorem dX9_areUnlikeYards_17 : decode cX9_areUnlikeYards 17 = .ok (.iload_n 2, 1) := by decide +kernel
theorem dX9_areUnlikeYards_18 : decode cX9_areUnlikeYards 18 = .ok (.iconst 0, 1) := by decide +kernel
theorem dX9_areUnlikeYards_19 : decode cX9_areUnlikeYards 19 = .ok (.aload_n 0, 1) := by decide +kernel
theorem dX9_areUnlikeYards_20 : decode cX9_areUnlikeYards 20 = .ok (.getfield 23, 3) := by decide +kernel
theorem dX9_areUnlikeYards_23 : decode cX9_areUnlikeYards 23 = .ok (.getfield 257, 3) := by decide +kernel
theorem dX9_areUnlikeYards_26 : decode cX9_areUnlikeYards 26 = .ok (.iconst 1, 1) := by decide +kernel
theorem dX9_areUnlikeYards_27 : decode cX9_areUnlikeYards 27 = .ok (.isub, 1) := by decide +kernel
theorem dX9_areUnlikeYards_28 : decode cX9_areUnlikeYards 28 = .ok (.invokestatic 58, 3) := by decide +kernel
theorem dX9_areUnlikeYards_31 : decode cX9_areUnlikeYards 31 = .ok (.ifCond .eq 12, 3) := by decide +kernel
theorem dX9_areUnlikeYards_34 : decode cX9_areUnlikeYards 34 = .ok (.iload_n 1, 1) := by decide +kernel
theorem dX9_areUnlikeYards_35 : decode cX9_areUnlikeYards 35 = .ok (.iload_n 2, 1) := by decide +kernel
theorem dX9_areUnlikeYards_36 : decode cX9_areUnlikeYards 36 = .ok (.if_icmp .eq 7, 3) := by decide +kernel
theorem dX9_areUnlikeYards_39 : decode cX9_areUnlikeYards 39 = .ok (.iconst 1, 1) := by decide +kernel
theorem dX9_areUnlikeYards_40 : decode cX9_areUnlikeYards 40 = .ok (.goto 4, 3) := by decide +kernel
theorem dX9_areUnlikeYards_43 : decode cX9_areUnlikeYards 43 = .ok (.iconst 0, 1) := by decide +kernel
theorem dX9_areUnlikeYards_44 : decode cX9_areUnlikeYards 44 = .ok (.ireturn, 1) := by decide +kernel
set_option maxRecDepth 20000 in
theorem ggX9_waysNow_X4_draw : GoodIn wsX9_waysNow wsX4_draw := goodIn_r _ [10, 11, 12, 13, 14, 15, 16, 17, 18, 19, 20, 21, 22, 23, 24, 25, 26, 27, 28, 29, 30, 31, 32, 33, 34, 35, 36, 37, 38, 39, 40, 41, 42, 43, 44, 45, 61, 62, 63, 64, 65, 66, 67, 68, 69, 70, 71, 72, 73, 74, 75, 76, 77, 78, 79, 80, 81, 82] (by decide +kernel) (by decide +kernel)
set_option maxRecDepth 20000 in
theorem gX9_waysNow_X4_draw : GoodIn wsX9_waysNow (wsV RX9 208 RX4 yX4_draw wsX4_draw) := goodIn_app (goodIn_of _ (by decide +kernel)) ggX9_waysNow_X4_draw
theorem dX9_waysNow_0 : decode cX9_waysNow 0 = .ok (.aload_n 0, 1) := by decide +kernel
theorem dX9_waysNow_1 : decode cX9_waysNow 1 = .ok (.getfield 40, 3) := by decide +kernel
theorem dX9_waysNow_4 : decode cX9_waysNow 4 = .ok (.getfield 280, 3) := by decide +kernel
theorem dX9_waysNow_7 : decode cX9_waysNow 7 = .ok (.aload_n 0, 1) := by decide +kernel
theorem dX9_waysNow_8 : decode cX9_waysNow 8 = .ok (.getfield 23, 3) := by decide +kernel
theorem dX9_waysNow_11 : decode cX9_waysNow 11 = .ok (.aload_n 0, 1) := by decide +kernel
theorem dX9_waysNow_12 : decode cX9_waysNow 12 = .ok (.getfield 29, 3) := by decide +kernel
theorem dX9_waysNow_15 : decode cX9_waysNow 15 = .ok (.getfield 98, 3) := by decide +kernel
theorem dX9_waysNow_18 : decode cX9_waysNow 18 = .ok (.invokevirtual 208, 3) := by decide +kernel
theorem dX9_waysNow_21 : decode cX9_waysNow 21 = .ok (.aload_n 0, 1) := by decide +kernel
theorem dX9_waysNow_22 : decode cX9_waysNow 22 = .ok (.getfield 40, 3) := by decide +kernel
theorem dX9_waysNow_25 : decode cX9_waysNow 25 = .ok (.areturn, 1) := by decide +kernel
theorem dX9_raise_0 : decode cX9_raise 0 = .ok (.aload_n 0, 1) := by decide +kernel
theorem dX9_raise_1 : decode cX9_raise 1 = .ok (.iload_n 1, 1) := by decide +kernel
theorem dX9_raise_2 : decode cX9_raise 2 = .ok (.aload_n 0, 1) := by decide +kernel
theorem dX9_raise_3 : decode cX9_raise 3 = .ok (.iload_n 1, 1) := by decide +kernel
theorem dX9_raise_4 : decode cX9_raise 4 = .ok (.iaload, 1) := by decide +kernel
theorem dX9_raise_5 : decode cX9_raise 5 = .ok (.iload_n 2, 1) := by decide +kernel
theorem dX9_raise_6 : decode cX9_raise 6 = .ok (.invokestatic 281, 3) := by decide +kernel
theorem dX9_raise_9 : decode cX9_raise 9 = .ok (.iastore, 1) := by decide +kernel
theorem dX9_raise_10 : decode cX9_raise 10 = .ok (.return_, 1) := by decide +kernel
set_option maxRecDepth 20000 in
theorem ggX9_streetsAt_X7_endsOf : GoodIn wsX9_streetsAt wsX7_endsOf := goodIn_r _ [8, 9, 10, 23, 24, 25, 26, 27, 28, 29, 30, 31, 32, 33, 34, 35, 36, 37, 38, 39] (by decide +kernel) (by decide +kernel)
set_option maxRecDepth 20000 in
theorem gX9_streetsAt_X7_endsOf_u286X4 : GoodIn wsX9_streetsAt (va_wsU RX9 286 RX4 "KindStreets$Town" ⟨"KindStreets$Town", "endsOf", "(I)I"⟩ yX7_endsOf wsX7_endsOf) := goodIn_app (goodIn_of _ (by decide +kernel)) ggX9_streetsAt_X7_endsOf
set_option maxRecDepth 20000 in
theorem gX9_streetsAt_X7_endsOf : GoodIn wsX9_streetsAt (wsV RX9 286 RX7 yX7_endsOf wsX7_endsOf) := goodIn_app (goodIn_of _ (by decide +kernel)) ggX9_streetsAt_X7_endsOf
theorem dX9_streetsAt_0 : decode cX9_streetsAt 0 = .ok (.iconst 0, 1) := by decide +kernel
theorem dX9_streetsAt_1 : decode cX9_streetsAt 1 = .ok (.istore_n 2, 1) := by decide +kernel
theorem dX9_streetsAt_2 : decode cX9_streetsAt 2 = .ok (.iconst 0, 1) := by decide +kernel
theorem dX9_streetsAt_3 : decode cX9_streetsAt 3 = .ok (.istore_n 3, 1) := by decide +kernel
theorem dX9_streetsAt_4 : decode cX9_streetsAt 4 = .ok (.iload_n 3, 1) := by decide +kernel
theorem dX9_streetsAt_5 : decode cX9_streetsAt 5 = .ok (.aload_n 0, 1) := by decide +kernel
theorem dX9_streetsAt_6 : decode cX9_streetsAt 6 = .ok (.getfield 23, 3) := by decide +kernel
theorem dX9_streetsAt_9 : decode cX9_streetsAt 9 = .ok (.getfield 189, 3) := by decide +kernel
theorem dX9_streetsAt_12 : decode cX9_streetsAt 12 = .ok (.if_icmp .ge 35, 3) := by decide +kernel
theorem dX9_streetsAt_15 : decode cX9_streetsAt 15 = .ok (.aload_n 0, 1) := by decide +kernel
theorem dX9_streetsAt_16 : decode cX9_streetsAt 16 = .ok (.getfield 23, 3) := by decide +kernel
theorem dX9_streetsAt_19 : decode cX9_streetsAt 19 = .ok (.iload_n 1, 1) := by decide +kernel
theorem dX9_streetsAt_20 : decode cX9_streetsAt 20 = .ok (.invokevirtual 286, 3) := by decide +kernel
theorem dX9_streetsAt_23 : decode cX9_streetsAt 23 = .ok (.aload_n 0, 1) := by decide +kernel
theorem dX9_streetsAt_24 : decode cX9_streetsAt 24 = .ok (.getfield 23, 3) := by decide +kernel
theorem dX9_streetsAt_27 : decode cX9_streetsAt 27 = .ok (.iload_n 3, 1) := by decide +kernel
theorem dX9_streetsAt_28 : decode cX9_streetsAt 28 = .ok (.invokevirtual 286, 3) := by decide +kernel
theorem dX9_streetsAt_31 : decode cX9_streetsAt 31 = .ok (.iand, 1) := by decide +kernel
theorem dX9_streetsAt_32 : decode cX9_streetsAt 32 = .ok (.ifCond .eq 9, 3) := by decide +kernel
theorem dX9_streetsAt_35 : decode cX9_streetsAt 35 = .ok (.iload_n 2, 1) := by decide +kernel
theorem dX9_streetsAt_36 : decode cX9_streetsAt 36 = .ok (.iconst 1, 1) := by decide +kernel
theorem dX9_streetsAt_37 : decode cX9_streetsAt 37 = .ok (.iload_n 3, 1) := by decide +kernel
theorem dX9_streetsAt_38 : decode cX9_streetsAt 38 = .ok (.ishl, 1) := by decide +kernel
theorem dX9_streetsAt_39 : decode cX9_streetsAt 39 = .ok (.ior, 1) := by decide +kernel
theorem dX9_streetsAt_40 : decode cX9_streetsAt 40 = .ok (.istore_n 2, 1) := by decide +kernel
theorem dX9_streetsAt_41 : decode cX9_streetsAt 41 = .ok (.iinc 3 1, 3) := by decide +kernel
theorem dX9_streetsAt_44 : decode cX9_streetsAt 44 = .ok (.goto (-40), 3) := by decide +kernel
theorem dX9_streetsAt_47 : decode cX9_streetsAt 47 = .ok (.iload_n 2, 1) := by decide +kernel
theorem dX9_streetsAt_48 : decode cX9_streetsAt 48 = .ok (.ireturn, 1) := by decide +kernel
set_option maxRecDepth 20000 in
theorem ggX9_livingIn_X9_livingInAny : GoodIn wsX9_livingIn wsX9_livingInAny := goodIn_r _ [5, 6, 7, 8, 9, 10, 11, 12, 13, 14, 15, 16, 17, 18, 19, 20, 21, 22, 23, 24, 25, 26, 27, 28, 29, 30, 31, 32, 33, 34, 35, 36, 37, 38, 39, 40, 41, 42, 43, 44, 45, 46, 47, 48, 49] (by decide +kernel) (by decide +kernel)
set_option maxRecDepth 20000 in
theorem gX9_livingIn_X9_livingInAny : GoodIn wsX9_livingIn (wsV RX9 289 RX9 yX9_livingInAny wsX9_livingInAny) := goodIn_app (goodIn_of _ (by decide +kernel)) ggX9_livingIn_X9_livingInAny
theorem dX9_livingIn_0 : decode cX9_livingIn 0 = .ok (.aload_n 0, 1) := by decide +kernel
theorem dX9_livingIn_1 : decode cX9_livingIn 1 = .ok (.iconst 1, 1) := by decide +kernel
theorem dX9_livingIn_2 : decode cX9_livingIn 2 = .ok (.iload_n 1, 1) := by decide +kernel
theorem dX9_livingIn_3 : decode cX9_livingIn 3 = .ok (.ishl, 1) := by decide +kernel
theorem dX9_livingIn_4 : decode cX9_livingIn 4 = .ok (.invokevirtual 289, 3) := by decide +kernel
theorem dX9_livingIn_7 : decode cX9_livingIn 7 = .ok (.ireturn, 1) := by decide +kernel
set_option maxRecDepth 20000 in
theorem ggX9_livingInAny_X5_has : GoodIn wsX9_livingInAny wsX5_has := goodIn_r _ [9] (by decide +kernel) (by decide +kernel)
set_option maxRecDepth 20000 in
theorem gX9_livingInAny_X5_has : GoodIn wsX9_livingInAny (va_wsS RX9 254 yX5_has wsX5_has) := goodIn_app (goodIn_of _ (by decide +kernel)) ggX9_livingInAny_X5_has
theorem dX9_livingInAny_0 : decode cX9_livingInAny 0 = .ok (.iconst 0, 1) := by decide +kernel
theorem dX9_livingInAny_1 : decode cX9_livingInAny 1 = .ok (.istore_n 2, 1) := by decide +kernel
theorem dX9_livingInAny_2 : decode cX9_livingInAny 2 = .ok (.iconst 0, 1) := by decide +kernel
theorem dX9_livingInAny_3 : decode cX9_livingInAny 3 = .ok (.istore_n 3, 1) := by decide +kernel
theorem dX9_livingInAny_4 : decode cX9_livingInAny 4 = .ok (.iload_n 3, 1) := by decide +kernel
theorem dX9_livingInAny_5 : decode cX9_livingInAny 5 = .ok (.aload_n 0, 1) := by decide +kernel
theorem dX9_livingInAny_6 : decode cX9_livingInAny 6 = .ok (.getfield 23, 3) := by decide +kernel
theorem dX9_livingInAny_9 : decode cX9_livingInAny 9 = .ok (.getfield 260, 3) := by decide +kernel
theorem dX9_livingInAny_12 : decode cX9_livingInAny 12 = .ok (.if_icmp .ge 34, 3) := by decide +kernel
theorem dX9_livingInAny_15 : decode cX9_livingInAny 15 = .ok (.iload_n 1, 1) := by decide +kernel
theorem dX9_livingInAny_16 : decode cX9_livingInAny 16 = .ok (.aload_n 0, 1) := by decide +kernel
theorem dX9_livingInAny_17 : decode cX9_livingInAny 17 = .ok (.getfield 29, 3) := by decide +kernel
theorem dX9_livingInAny_20 : decode cX9_livingInAny 20 = .ok (.getfield 98, 3) := by decide +kernel
theorem dX9_livingInAny_23 : decode cX9_livingInAny 23 = .ok (.getfield 123, 3) := by decide +kernel
theorem dX9_livingInAny_26 : decode cX9_livingInAny 26 = .ok (.iload_n 3, 1) := by decide +kernel
theorem dX9_livingInAny_27 : decode cX9_livingInAny 27 = .ok (.iaload, 1) := by decide +kernel
theorem dX9_livingInAny_28 : decode cX9_livingInAny 28 = .ok (.invokestatic 254, 3) := by decide +kernel
theorem dX9_livingInAny_31 : decode cX9_livingInAny 31 = .ok (.ifCond .eq 9, 3) := by decide +kernel
theorem dX9_livingInAny_34 : decode cX9_livingInAny 34 = .ok (.iload_n 2, 1) := by decide +kernel
theorem dX9_livingInAny_35 : decode cX9_livingInAny 35 = .ok (.iconst 1, 1) := by decide +kernel
theorem dX9_livingInAny_36 : decode cX9_livingInAny 36 = .ok (.iload_n 3, 1) := by decide +kernel
theorem dX9_livingInAny_37 : decode cX9_livingInAny 37 = .ok (.ishl, 1) := by decide +kernel
theorem dX9_livingInAny_38 : decode cX9_livingInAny 38 = .ok (.ior, 1) := by decide +kernel
theorem dX9_livingInAny_39 : decode cX9_livingInAny 39 = .ok (.istore_n 2, 1) := by decide +kernel
theorem dX9_livingInAny_40 : decode cX9_livingInAny 40 = .ok (.iinc 3 1, 3) := by decide +kernel
theorem dX9_livingInAny_43 : decode cX9_livingInAny 43 = .ok (.goto (-39), 3) := by decide +kernel
theorem dX9_livingInAny_46 : decode cX9_livingInAny 46 = .ok (.iload_n 2, 1) := by decide +kernel
theorem dX9_livingInAny_47 : decode cX9_livingInAny 47 = .ok (.ireturn, 1) := by decide +kernel
set_option maxRecDepth 20000 in
theorem ggX9_witnessesOf_X9_streetsAt : GoodIn wsX9_witnessesOf wsX9_streetsAt := goodIn_r _ [8, 9, 10, 11, 12, 13, 14, 15, 16, 17, 18, 19, 20, 33, 34, 35, 36, 37, 38, 39, 40, 41, 42, 51, 52, 53, 54, 55, 56, 57, 58, 59, 60, 61, 62, 63, 64, 65, 66, 67] (by decide +kernel) (by decide +kernel)
set_option maxRecDepth 20000 in
theorem gX9_witnessesOf_X9_streetsAt : GoodIn wsX9_witnessesOf (wsV RX9 277 RX9 yX9_streetsAt wsX9_streetsAt) := goodIn_app (goodIn_of _ (by decide +kernel)) ggX9_witnessesOf_X9_streetsAt
set_option maxRecDepth 20000 in
theorem ggX9_witnessesOf_X9_livingInAny : GoodIn wsX9_witnessesOf wsX9_livingInAny := goodIn_r _ [24, 9, 25, 1, 2, 3, 26, 27, 28, 29, 33, 34, 35, 36, 37, 38, 39, 40, 41, 42, 51, 52, 53, 54, 55, 56, 57, 58, 59, 60, 61, 62, 63, 64, 65, 66, 67, 43, 44, 45, 46, 47, 48, 49, 50] (by decide +kernel) (by decide +kernel)
set_option maxRecDepth 20000 in
theorem gX9_witnessesOf_X9_livingInAny : GoodIn wsX9_witnessesOf (wsV RX9 289 RX9 yX9_livingInAny wsX9_livingInAny) := goodIn_app (goodIn_of _ (by decide +kernel)) ggX9_witnessesOf_X9_livingInAny
set_option maxRecDepth 20000 in
theorem ggX9_witnessesOf_X5_without : GoodIn wsX9_witnessesOf wsX5_without := goodIn_r _ [32] (by decide +kernel) (by decide +kernel)
set_option maxRecDepth 20000 in
theorem gX9_witnessesOf_X5_without : GoodIn wsX9_witnessesOf (va_wsS RX9 292 yX5_without wsX5_without) := goodIn_app (goodIn_of _ (by decide +kernel)) ggX9_witnessesOf_X5_without
theorem dX9_witnessesOf_0 : decode cX9_witnessesOf 0 = .ok (.aload_n 0, 1) := by decide +kernel
theorem dX9_witnessesOf_1 : decode cX9_witnessesOf 1 = .ok (.aload_n 0, 1) := by decide +kernel
theorem dX9_witnessesOf_2 : decode cX9_witnessesOf 2 = .ok (.aload_n 0, 1) := by decide +kernel
theorem dX9_witnessesOf_3 : decode cX9_witnessesOf 3 = .ok (.getfield 29, 3) := by decide +kernel
theorem dX9_witnessesOf_6 : decode cX9_witnessesOf 6 = .ok (.getfield 98, 3) := by decide +kernel
theorem dX9_witnessesOf_9 : decode cX9_witnessesOf 9 = .ok (.getfield 123, 3) := by decide +kernel
theorem dX9_witnessesOf_12 : decode cX9_witnessesOf 12 = .ok (.iload_n 1, 1) := by decide +kernel
theorem dX9_witnessesOf_13 : decode cX9_witnessesOf 13 = .ok (.iaload, 1) := by decide +kernel
theorem dX9_witnessesOf_14 : decode cX9_witnessesOf 14 = .ok (.invokevirtual 277, 3) := by decide +kernel
theorem dX9_witnessesOf_17 : decode cX9_witnessesOf 17 = .ok (.invokevirtual 289, 3) := by decide +kernel
theorem dX9_witnessesOf_20 : decode cX9_witnessesOf 20 = .ok (.iload_n 1, 1) := by decide +kernel
theorem dX9_witnessesOf_21 : decode cX9_witnessesOf 21 = .ok (.invokestatic 292, 3) := by decide +kernel
theorem dX9_witnessesOf_24 : decode cX9_witnessesOf 24 = .ok (.ireturn, 1) := by decide +kernel
set_option maxRecDepth 20000 in
theorem ggX9_widthsTogether_X2_widthOf : GoodIn wsX9_widthsTogether wsX2_widthOf := goodIn_r _ [9, 10, 11, 12, 13, 14, 8, 15, 16, 17, 18, 19, 50, 51, 52, 53, 54] (by decide +kernel) (by decide +kernel)
set_option maxRecDepth 20000 in
theorem gX9_widthsTogether_X2_widthOf : GoodIn wsX9_widthsTogether (wsV RX9 113 RX2 yX2_widthOf wsX2_widthOf) := goodIn_app (goodIn_of _ (by decide +kernel)) ggX9_widthsTogether_X2_widthOf
theorem dX9_widthsTogether_0 : decode cX9_widthsTogether 0 = .ok (.iconst 0, 1) := by decide +kernel
theorem dX9_widthsTogether_1 : decode cX9_widthsTogether 1 = .ok (.istore_n 1, 1) := by decide +kernel
theorem dX9_widthsTogether_2 : decode cX9_widthsTogether 2 = .ok (.iconst 0, 1) := by decide +kernel
theorem dX9_widthsTogether_3 : decode cX9_widthsTogether 3 = .ok (.istore_n 2, 1) := by decide +kernel
theorem dX9_widthsTogether_4 : decode cX9_widthsTogether 4 = .ok (.iload_n 2, 1) := by decide +kernel
theorem dX9_widthsTogether_5 : decode cX9_widthsTogether 5 = .ok (.aload_n 0, 1) := by decide +kernel
theorem dX9_widthsTogether_6 : decode cX9_widthsTogether 6 = .ok (.getfield 23, 3) := by decide +kernel
theorem dX9_widthsTogether_9 : decode cX9_widthsTogether 9 = .ok (.getfield 189, 3) := by decide +kernel
theorem dX9_widthsTogether_12 : decode cX9_widthsTogether 12 = .ok (.if_icmp .ge 23, 3) := by decide +kernel
theorem dX9_widthsTogether_15 : decode cX9_widthsTogether 15 = .ok (.iload_n 1, 1) := by decide +kernel
theorem dX9_widthsTogether_16 : decode cX9_widthsTogether 16 = .ok (.aload_n 0, 1) := by decide +kernel
theorem dX9_widthsTogether_17 : decode cX9_widthsTogether 17 = .ok (.getfield 29, 3) := by decide +kernel
theorem dX9_widthsTogether_20 : decode cX9_widthsTogether 20 = .ok (.getfield 98, 3) := by decide +kernel
theorem dX9_widthsTogether_23 : decode cX9_widthsTogether 23 = .ok (.iload_n 2, 1) := by decide +kernel
theorem dX9_widthsTogether_24 : decode cX9_widthsTogether 24 = .ok (.invokevirtual 113, 3) := by decide +kernel
theorem dX9_widthsTogether_27 : decode cX9_widthsTogether 27 = .ok (.iadd, 1) := by decide +kernel
theorem dX9_widthsTogether_28 : decode cX9_widthsTogether 28 = .ok (.istore_n 1, 1) := by decide +kernel
theorem dX9_widthsTogether_29 : decode cX9_widthsTogether 29 = .ok (.iinc 2 1, 3) := by decide +kernel
theorem dX9_widthsTogether_32 : decode cX9_widthsTogether 32 = .ok (.goto (-28), 3) := by decide +kernel
theorem dX9_widthsTogether_35 : decode cX9_widthsTogether 35 = .ok (.iload_n 1, 1) := by decide +kernel
theorem dX9_widthsTogether_36 : decode cX9_widthsTogether 36 = .ok (.ireturn, 1) := by decide +kernel
theorem dX9_streetsWithHidden_0 : decode cX9_streetsWithHidden 0 = .ok (.iconst 0, 1) := by decide +kernel
theorem dX9_streetsWithHidden_1 : decode cX9_streetsWithHidden 1 = .ok (.istore_n 1, 1) := by decide +kernel
theorem dX9_streetsWithHidden_2 : decode cX9_streetsWithHidden 2 = .ok (.iconst 0, 1) := by decide +kernel
theorem dX9_streetsWithHidden_3 : decode cX9_streetsWithHidden 3 = .ok (.istore_n 2, 1) := by decide +kernel
theorem dX9_streetsWithHidden_4 : decode cX9_streetsWithHidden 4 = .ok (.iload_n 2, 1) := by decide +kernel
theorem dX9_streetsWithHidden_5 : decode cX9_streetsWithHidden 5 = .ok (.aload_n 0, 1) := by decide +kernel
theorem dX9_streetsWithHidden_6 : decode cX9_streetsWithHidden 6 = .ok (.getfield 23, 3) := by decide +kernel
theorem dX9_streetsWithHidden_9 : decode cX9_streetsWithHidden 9 = .ok (.getfield 189, 3) := by decide +kernel
theorem dX9_streetsWithHidden_12 : decode cX9_streetsWithHidden 12 = .ok (.if_icmp .ge 27, 3) := by decide +kernel
theorem dX9_streetsWithHidden_15 : decode cX9_streetsWithHidden 15 = .ok (.aload_n 0, 1) := by decide +kernel
theorem dX9_streetsWithHidden_16 : decode cX9_streetsWithHidden 16 = .ok (.getfield 29, 3) := by decide +kernel
theorem dX9_streetsWithHidden_19 : decode cX9_streetsWithHidden 19 = .ok (.getfield 98, 3) := by decide +kernel
theorem dX9_streetsWithHidden_22 : decode cX9_streetsWithHidden 22 = .ok (.getfield 107, 3) := by decide +kernel
theorem dX9_streetsWithHidden_25 : decode cX9_streetsWithHidden 25 = .ok (.iload_n 2, 1) := by decide +kernel
theorem dX9_streetsWithHidden_26 : decode cX9_streetsWithHidden 26 = .ok (.iaload, 1) := by decide +kernel
theorem dX9_streetsWithHidden_27 : decode cX9_streetsWithHidden 27 = .ok (.ifCond .le 6, 3) := by decide +kernel
theorem dX9_streetsWithHidden_30 : decode cX9_streetsWithHidden 30 = .ok (.iinc 1 1, 3) := by decide +kernel
theorem dX9_streetsWithHidden_33 : decode cX9_streetsWithHidden 33 = .ok (.iinc 2 1, 3) := by decide +kernel
theorem dX9_streetsWithHidden_36 : decode cX9_streetsWithHidden 36 = .ok (.goto (-32), 3) := by decide +kernel
theorem dX9_streetsWithHidden_39 : decode cX9_streetsWithHidden 39 = .ok (.iload_n 1, 1) := by decide +kernel
theorem dX9_streetsWithHidden_40 : decode cX9_streetsWithHidden 40 = .ok (.ireturn, 1) := by decide +kernel
