set_option maxRecDepth 20000 in
theorem ggX0_init_X4_init : GoodIn wsX0_init wsX4_init := goodIn_r _ [12, 4, 13, 14, 15, 16, 17, 18, 2, 3, 19, 20, 21, 22, 23, 24, 27, 28, 29, 30, 31, 32, 33, 34, 35, 36, 37, 38, 39, 40, 41, 42, 43] (by decide +kernel) (by decide +kernel)
set_option maxRecDepth 20000 in
theorem gX0_init_X4_init : GoodIn wsX0_init (wsX4_init) := ggX0_init_X4_init
theorem dX0_init_0 : decode cX0_init 0 = .ok (.aload_n 0, 1) := by decide +kernel
theorem dX0_init_1 : decode cX0_init 1 = .ok (.invokespecial 3, 3) := by decide +kernel
theorem dX0_init_4 : decode cX0_init 4 = .ok (.aload_n 0, 1) := by decide +kernel
theorem dX0_init_5 : decode cX0_init 5 = .ok (.bipush 6, 2) := by decide +kernel
theorem dX0_init_7 : decode cX0_init 7 = .ok (.newarray .int, 2) := by decide +kernel
theorem dX0_init_9 : decode cX0_init 9 = .ok (.putfield 9, 3) := by decide +kernel
theorem dX0_init_12 : decode cX0_init 12 = .ok (.aload_n 0, 1) := by decide +kernel
theorem dX0_init_13 : decode cX0_init 13 = .ok (.new 15, 3) := by decide +kernel
theorem dX0_init_16 : decode cX0_init 16 = .ok (.dup, 1) := by decide +kernel
theorem dX0_init_17 : decode cX0_init 17 = .ok (.invokespecial 17, 3) := by decide +kernel
theorem dX0_init_20 : decode cX0_init 20 = .ok (.putfield 18, 3) := by decide +kernel
theorem dX0_init_23 : decode cX0_init 23 = .ok (.return_, 1) := by decide +kernel
set_option maxRecDepth 20000 in
theorem ggX0_give_X5_allOf : GoodIn wsX0_give wsX5_allOf := goodIn_r _ [10] (by decide +kernel) (by decide +kernel)
set_option maxRecDepth 20000 in
theorem gX0_give_X5_allOf : GoodIn wsX0_give (va_wsS RX0 26 yX5_allOf wsX5_allOf) := goodIn_app (goodIn_of _ (by decide +kernel)) ggX0_give_X5_allOf
set_option maxRecDepth 20000 in
theorem ggX0_give_X0_mostFrom : GoodIn wsX0_give wsX0_mostFrom := goodIn_r _ [15, 16, 17, 18, 19, 20, 21, 22, 14, 23, 1, 4, 5, 24, 25, 26, 27, 28, 29, 2, 3, 30, 31, 32, 9, 33, 41, 42, 43, 44, 45, 46, 47, 48, 49, 50, 51, 52, 53, 54, 55, 56, 57, 58, 59] (by decide +kernel) (by decide +kernel)
set_option maxRecDepth 20000 in
theorem gX0_give_X0_mostFrom : GoodIn wsX0_give (wsV RX0 32 RX0 yX0_mostFrom wsX0_mostFrom) := goodIn_app (goodIn_of _ (by decide +kernel)) ggX0_give_X0_mostFrom
set_option maxRecDepth 20000 in
theorem ggX0_give_X0_lowestStreetFor : GoodIn wsX0_give wsX0_lowestStreetFor := goodIn_r _ [37, 1, 2, 3, 30, 24, 25, 31, 32, 9, 33, 38, 39, 40, 11, 12, 13, 14, 15, 16, 17, 18, 19, 20, 21, 22, 23, 4, 5, 26, 27, 28, 29, 41, 42, 43, 44, 45, 46, 47, 48, 49, 50, 51, 52, 53, 54, 55, 56, 57, 58, 59] (by decide +kernel) (by decide +kernel)
set_option maxRecDepth 20000 in
theorem gX0_give_X0_lowestStreetFor : GoodIn wsX0_give (wsV RX0 39 RX0 yX0_lowestStreetFor wsX0_lowestStreetFor) := goodIn_app (goodIn_of _ (by decide +kernel)) ggX0_give_X0_lowestStreetFor
set_option maxRecDepth 20000 in
theorem ggX0_give_X5_without : GoodIn wsX0_give wsX5_without := goodIn_r _ [40] (by decide +kernel) (by decide +kernel)
set_option maxRecDepth 20000 in
theorem gX0_give_X5_without : GoodIn wsX0_give (va_wsS RX0 43 yX5_without wsX5_without) := goodIn_app (goodIn_of _ (by decide +kernel)) ggX0_give_X5_without
theorem dX0_give_0 : decode cX0_give 0 = .ok (.aload_n 0, 1) := by decide +kernel
theorem dX0_give_1 : decode cX0_give 1 = .ok (.getfield 18, 3) := by decide +kernel
theorem dX0_give_4 : decode cX0_give 4 = .ok (.getfield 22, 3) := by decide +kernel
theorem dX0_give_7 : decode cX0_give 7 = .ok (.invokestatic 26, 3) := by decide +kernel
theorem dX0_give_10 : decode cX0_give 10 = .ok (.istore_n 1, 1) := by decide +kernel
theorem dX0_give_11 : decode cX0_give 11 = .ok (.aload_n 0, 1) := by decide +kernel
theorem dX0_give_12 : decode cX0_give 12 = .ok (.iconst 0, 1) := by decide +kernel
theorem dX0_give_13 : decode cX0_give 13 = .ok (.iload_n 1, 1) := by decide +kernel
theorem dX0_give_14 : decode cX0_give 14 = .ok (.invokevirtual 32, 3) := by decide +kernel
theorem dX0_give_17 : decode cX0_give 17 = .ok (.istore_n 2, 1) := by decide +kernel
theorem dX0_give_18 : decode cX0_give 18 = .ok (.iload_n 2, 1) := by decide +kernel
theorem dX0_give_19 : decode cX0_give 19 = .ok (.istore_n 3, 1) := by decide +kernel
theorem dX0_give_20 : decode cX0_give 20 = .ok (.iconst 0, 1) := by decide +kernel
theorem dX0_give_21 : decode cX0_give 21 = .ok (.istore 4, 2) := by decide +kernel
theorem dX0_give_23 : decode cX0_give 23 = .ok (.iload 4, 2) := by decide +kernel
theorem dX0_give_25 : decode cX0_give 25 = .ok (.aload_n 0, 1) := by decide +kernel
theorem dX0_give_26 : decode cX0_give 26 = .ok (.getfield 18, 3) := by decide +kernel
theorem dX0_give_29 : decode cX0_give 29 = .ok (.getfield 36, 3) := by decide +kernel
theorem dX0_give_32 : decode cX0_give 32 = .ok (.if_icmp .ge 51, 3) := by decide +kernel
theorem dX0_give_35 : decode cX0_give 35 = .ok (.aload_n 0, 1) := by decide +kernel
theorem dX0_give_36 : decode cX0_give 36 = .ok (.getfield 9, 3) := by decide +kernel
theorem dX0_give_39 : decode cX0_give 39 = .ok (.iload 4, 2) := by decide +kernel
theorem dX0_give_41 : decode cX0_give 41 = .ok (.aload_n 0, 1) := by decide +kernel
theorem dX0_give_42 : decode cX0_give 42 = .ok (.iload 4, 2) := by decide +kernel
theorem dX0_give_44 : decode cX0_give 44 = .ok (.iload_n 1, 1) := by decide +kernel
theorem dX0_give_45 : decode cX0_give 45 = .ok (.iload_n 3, 1) := by decide +kernel
theorem dX0_give_46 : decode cX0_give 46 = .ok (.invokevirtual 39, 3) := by decide +kernel
theorem dX0_give_49 : decode cX0_give 49 = .ok (.iastore, 1) := by decide +kernel
theorem dX0_give_50 : decode cX0_give 50 = .ok (.aload_n 0, 1) := by decide +kernel
theorem dX0_give_51 : decode cX0_give 51 = .ok (.getfield 9, 3) := by decide +kernel
theorem dX0_give_54 : decode cX0_give 54 = .ok (.iload 4, 2) := by decide +kernel
theorem dX0_give_56 : decode cX0_give 56 = .ok (.iaload, 1) := by decide +kernel
theorem dX0_give_57 : decode cX0_give 57 = .ok (.bipush (-9), 2) := by decide +kernel
theorem dX0_give_59 : decode cX0_give 59 = .ok (.if_icmp .eq 18, 3) := by decide +kernel
theorem dX0_give_62 : decode cX0_give 62 = .ok (.iload_n 1, 1) := by decide +kernel
theorem dX0_give_63 : decode cX0_give 63 = .ok (.aload_n 0, 1) := by decide +kernel
theorem dX0_give_64 : decode cX0_give 64 = .ok (.getfield 9, 3) := by decide +kernel
theorem dX0_give_67 : decode cX0_give 67 = .ok (.iload 4, 2) := by decide +kernel
theorem dX0_give_69 : decode cX0_give 69 = .ok (.iaload, 1) := by decide +kernel
theorem dX0_give_70 : decode cX0_give 70 = .ok (.invokestatic 43, 3) := by decide +kernel
theorem dX0_give_73 : decode cX0_give 73 = .ok (.istore_n 1, 1) := by decide +kernel
theorem dX0_give_74 : decode cX0_give 74 = .ok (.iinc 3 (-1), 3) := by decide +kernel
theorem dX0_give_77 : decode cX0_give 77 = .ok (.iinc 4 1, 3) := by decide +kernel
theorem dX0_give_80 : decode cX0_give 80 = .ok (.goto (-57), 3) := by decide +kernel
theorem dX0_give_83 : decode cX0_give 83 = .ok (.iload_n 2, 1) := by decide +kernel
theorem dX0_give_84 : decode cX0_give 84 = .ok (.ireturn, 1) := by decide +kernel
set_option maxRecDepth 20000 in
theorem ggX0_lowestStreetFor_X5_has : GoodIn wsX0_lowestStreetFor wsX5_has := goodIn_r _ [10] (by decide +kernel) (by decide +kernel)
set_option maxRecDepth 20000 in
theorem gX0_lowestStreetFor_X5_has : GoodIn wsX0_lowestStreetFor (va_wsS RX0 46 yX5_has wsX5_has) := goodIn_app (goodIn_of _ (by decide +kernel)) ggX0_lowestStreetFor_X5_has
set_option maxRecDepth 20000 in
theorem ggX0_lowestStreetFor_X5_without : GoodIn wsX0_lowestStreetFor wsX5_without := goodIn_r _ [13] (by decide +kernel) (by decide +kernel)
set_option maxRecDepth 20000 in
theorem gX0_lowestStreetFor_X5_without : GoodIn wsX0_lowestStreetFor (va_wsS RX0 43 yX5_without wsX5_without) := goodIn_app (goodIn_of _ (by decide +kernel)) ggX0_lowestStreetFor_X5_without
set_option maxRecDepth 20000 in
theorem ggX0_lowestStreetFor_X0_mostFrom : GoodIn wsX0_lowestStreetFor wsX0_mostFrom := goodIn_r _ [18, 19, 20, 21, 22, 23, 24, 25, 17, 26, 1, 27, 28, 5, 6, 29, 30, 31, 32, 2, 3, 4, 7, 8, 9, 10, 33, 34, 35, 36, 37, 38, 39, 40, 41, 42, 43, 44, 45, 46, 47, 48, 49, 50, 51] (by decide +kernel) (by decide +kernel)
set_option maxRecDepth 20000 in
theorem gX0_lowestStreetFor_X0_mostFrom : GoodIn wsX0_lowestStreetFor (wsV RX0 32 RX0 yX0_mostFrom wsX0_mostFrom) := goodIn_app (goodIn_of _ (by decide +kernel)) ggX0_lowestStreetFor_X0_mostFrom
theorem dX0_lowestStreetFor_0 : decode cX0_lowestStreetFor 0 = .ok (.iconst 0, 1) := by decide +kernel
theorem dX0_lowestStreetFor_1 : decode cX0_lowestStreetFor 1 = .ok (.istore 4, 2) := by decide +kernel
theorem dX0_lowestStreetFor_3 : decode cX0_lowestStreetFor 3 = .ok (.iload 4, 2) := by decide +kernel
theorem dX0_lowestStreetFor_5 : decode cX0_lowestStreetFor 5 = .ok (.aload_n 0, 1) := by decide +kernel
theorem dX0_lowestStreetFor_6 : decode cX0_lowestStreetFor 6 = .ok (.getfield 18, 3) := by decide +kernel
theorem dX0_lowestStreetFor_9 : decode cX0_lowestStreetFor 9 = .ok (.getfield 22, 3) := by decide +kernel
theorem dX0_lowestStreetFor_12 : decode cX0_lowestStreetFor 12 = .ok (.if_icmp .ge 62, 3) := by decide +kernel
theorem dX0_lowestStreetFor_15 : decode cX0_lowestStreetFor 15 = .ok (.iload_n 2, 1) := by decide +kernel
theorem dX0_lowestStreetFor_16 : decode cX0_lowestStreetFor 16 = .ok (.iload 4, 2) := by decide +kernel
theorem dX0_lowestStreetFor_18 : decode cX0_lowestStreetFor 18 = .ok (.invokestatic 46, 3) := by decide +kernel
theorem dX0_lowestStreetFor_21 : decode cX0_lowestStreetFor 21 = .ok (.ifCond .eq 47, 3) := by decide +kernel
theorem dX0_lowestStreetFor_24 : decode cX0_lowestStreetFor 24 = .ok (.aload_n 0, 1) := by decide +kernel
theorem dX0_lowestStreetFor_25 : decode cX0_lowestStreetFor 25 = .ok (.getfield 18, 3) := by decide +kernel
theorem dX0_lowestStreetFor_28 : decode cX0_lowestStreetFor 28 = .ok (.getfield 50, 3) := by decide +kernel
theorem dX0_lowestStreetFor_31 : decode cX0_lowestStreetFor 31 = .ok (.iload 4, 2) := by decide +kernel
theorem dX0_lowestStreetFor_33 : decode cX0_lowestStreetFor 33 = .ok (.iaload, 1) := by decide +kernel
theorem dX0_lowestStreetFor_34 : decode cX0_lowestStreetFor 34 = .ok (.aload_n 0, 1) := by decide +kernel
theorem dX0_lowestStreetFor_35 : decode cX0_lowestStreetFor 35 = .ok (.getfield 18, 3) := by decide +kernel
theorem dX0_lowestStreetFor_38 : decode cX0_lowestStreetFor 38 = .ok (.getfield 53, 3) := by decide +kernel
theorem dX0_lowestStreetFor_41 : decode cX0_lowestStreetFor 41 = .ok (.iload_n 1, 1) := by decide +kernel
theorem dX0_lowestStreetFor_42 : decode cX0_lowestStreetFor 42 = .ok (.iaload, 1) := by decide +kernel
theorem dX0_lowestStreetFor_43 : decode cX0_lowestStreetFor 43 = .ok (.if_icmp .lt 25, 3) := by decide +kernel
theorem dX0_lowestStreetFor_46 : decode cX0_lowestStreetFor 46 = .ok (.iconst 1, 1) := by decide +kernel
theorem dX0_lowestStreetFor_47 : decode cX0_lowestStreetFor 47 = .ok (.aload_n 0, 1) := by decide +kernel
theorem dX0_lowestStreetFor_48 : decode cX0_lowestStreetFor 48 = .ok (.iload_n 1, 1) := by decide +kernel
theorem dX0_lowestStreetFor_49 : decode cX0_lowestStreetFor 49 = .ok (.iconst 1, 1) := by decide +kernel
theorem dX0_lowestStreetFor_50 : decode cX0_lowestStreetFor 50 = .ok (.iadd, 1) := by decide +kernel
theorem dX0_lowestStreetFor_51 : decode cX0_lowestStreetFor 51 = .ok (.iload_n 2, 1) := by decide +kernel
theorem dX0_lowestStreetFor_52 : decode cX0_lowestStreetFor 52 = .ok (.iload 4, 2) := by decide +kernel
theorem dX0_lowestStreetFor_54 : decode cX0_lowestStreetFor 54 = .ok (.invokestatic 43, 3) := by decide +kernel
theorem dX0_lowestStreetFor_57 : decode cX0_lowestStreetFor 57 = .ok (.invokevirtual 32, 3) := by decide +kernel
theorem dX0_lowestStreetFor_60 : decode cX0_lowestStreetFor 60 = .ok (.iadd, 1) := by decide +kernel
theorem dX0_lowestStreetFor_61 : decode cX0_lowestStreetFor 61 = .ok (.iload_n 3, 1) := by decide +kernel
theorem dX0_lowestStreetFor_62 : decode cX0_lowestStreetFor 62 = .ok (.if_icmp .ne 6, 3) := by decide +kernel
theorem dX0_lowestStreetFor_65 : decode cX0_lowestStreetFor 65 = .ok (.iload 4, 2) := by decide +kernel
theorem dX0_lowestStreetFor_67 : decode cX0_lowestStreetFor 67 = .ok (.ireturn, 1) := by decide +kernel
theorem dX0_lowestStreetFor_68 : decode cX0_lowestStreetFor 68 = .ok (.iinc 4 1, 3) := by decide +kernel
theorem dX0_lowestStreetFor_71 : decode cX0_lowestStreetFor 71 = .ok (.goto (-68), 3) := by decide +kernel
theorem dX0_lowestStreetFor_74 : decode cX0_lowestStreetFor 74 = .ok (.bipush (-9), 2) := by decide +kernel
theorem dX0_lowestStreetFor_76 : decode cX0_lowestStreetFor 76 = .ok (.ireturn, 1) := by decide +kernel
set_option maxRecDepth 20000 in
theorem ggX0_mostFrom_X0_wantingFrom : GoodIn wsX0_mostFrom wsX0_wantingFrom := goodIn_r _ [9, 10, 11, 12, 13, 14, 26, 27, 28, 29, 30, 31, 32, 33, 34, 35, 36, 37, 38, 39, 40, 41, 42, 43, 44] (by decide +kernel) (by decide +kernel)
set_option maxRecDepth 20000 in
theorem gX0_mostFrom_X0_wantingFrom : GoodIn wsX0_mostFrom (wsV RX0 56 RX0 yX0_wantingFrom wsX0_wantingFrom) := goodIn_app (goodIn_of _ (by decide +kernel)) ggX0_mostFrom_X0_wantingFrom
set_option maxRecDepth 20000 in
theorem ggX0_mostFrom_X0_freeOf : GoodIn wsX0_mostFrom wsX0_freeOf := goodIn_r _ [18, 10, 19, 20, 21, 22, 23, 24, 25, 26, 27, 28, 29, 30, 31, 32, 33, 34, 35, 36, 37, 38, 39, 40, 41, 42, 43, 44] (by decide +kernel) (by decide +kernel)
set_option maxRecDepth 20000 in
theorem gX0_mostFrom_X0_freeOf : GoodIn wsX0_mostFrom (wsV RX0 59 RX0 yX0_freeOf wsX0_freeOf) := goodIn_app (goodIn_of _ (by decide +kernel)) ggX0_mostFrom_X0_freeOf
theorem dX0_mostFrom_0 : decode cX0_mostFrom 0 = .ok (.iconst 0, 1) := by decide +kernel
theorem dX0_mostFrom_1 : decode cX0_mostFrom 1 = .ok (.istore_n 3, 1) := by decide +kernel
theorem dX0_mostFrom_2 : decode cX0_mostFrom 2 = .ok (.iconst 0, 1) := by decide +kernel
theorem dX0_mostFrom_3 : decode cX0_mostFrom 3 = .ok (.istore 4, 2) := by decide +kernel
theorem dX0_mostFrom_5 : decode cX0_mostFrom 5 = .ok (.iconst 1, 1) := by decide +kernel
theorem dX0_mostFrom_6 : decode cX0_mostFrom 6 = .ok (.istore 5, 2) := by decide +kernel
theorem dX0_mostFrom_8 : decode cX0_mostFrom 8 = .ok (.iload 5, 2) := by decide +kernel
theorem dX0_mostFrom_10 : decode cX0_mostFrom 10 = .ok (.bipush 10, 2) := by decide +kernel
theorem dX0_mostFrom_12 : decode cX0_mostFrom 12 = .ok (.if_icmp .gt 47, 3) := by decide +kernel
theorem dX0_mostFrom_15 : decode cX0_mostFrom 15 = .ok (.iload 4, 2) := by decide +kernel
theorem dX0_mostFrom_17 : decode cX0_mostFrom 17 = .ok (.aload_n 0, 1) := by decide +kernel
theorem dX0_mostFrom_18 : decode cX0_mostFrom 18 = .ok (.iload_n 1, 1) := by decide +kernel
theorem dX0_mostFrom_19 : decode cX0_mostFrom 19 = .ok (.iload 5, 2) := by decide +kernel
theorem dX0_mostFrom_21 : decode cX0_mostFrom 21 = .ok (.invokevirtual 56, 3) := by decide +kernel
theorem dX0_mostFrom_24 : decode cX0_mostFrom 24 = .ok (.iadd, 1) := by decide +kernel
theorem dX0_mostFrom_25 : decode cX0_mostFrom 25 = .ok (.istore 4, 2) := by decide +kernel
theorem dX0_mostFrom_27 : decode cX0_mostFrom 27 = .ok (.iload 4, 2) := by decide +kernel
theorem dX0_mostFrom_29 : decode cX0_mostFrom 29 = .ok (.aload_n 0, 1) := by decide +kernel
theorem dX0_mostFrom_30 : decode cX0_mostFrom 30 = .ok (.iload_n 2, 1) := by decide +kernel
theorem dX0_mostFrom_31 : decode cX0_mostFrom 31 = .ok (.iload 5, 2) := by decide +kernel
theorem dX0_mostFrom_33 : decode cX0_mostFrom 33 = .ok (.invokevirtual 59, 3) := by decide +kernel
theorem dX0_mostFrom_36 : decode cX0_mostFrom 36 = .ok (.invokestatic 62, 3) := by decide +kernel
theorem dX0_mostFrom_39 : decode cX0_mostFrom 39 = .ok (.istore 6, 2) := by decide +kernel
theorem dX0_mostFrom_41 : decode cX0_mostFrom 41 = .ok (.iload_n 3, 1) := by decide +kernel
theorem dX0_mostFrom_42 : decode cX0_mostFrom 42 = .ok (.iload 6, 2) := by decide +kernel
theorem dX0_mostFrom_44 : decode cX0_mostFrom 44 = .ok (.iadd, 1) := by decide +kernel
theorem dX0_mostFrom_45 : decode cX0_mostFrom 45 = .ok (.istore_n 3, 1) := by decide +kernel
theorem dX0_mostFrom_46 : decode cX0_mostFrom 46 = .ok (.iload 4, 2) := by decide +kernel
theorem dX0_mostFrom_48 : decode cX0_mostFrom 48 = .ok (.iload 6, 2) := by decide +kernel
theorem dX0_mostFrom_50 : decode cX0_mostFrom 50 = .ok (.isub, 1) := by decide +kernel
theorem dX0_mostFrom_51 : decode cX0_mostFrom 51 = .ok (.istore 4, 2) := by decide +kernel
theorem dX0_mostFrom_53 : decode cX0_mostFrom 53 = .ok (.iinc 5 1, 3) := by decide +kernel
theorem dX0_mostFrom_56 : decode cX0_mostFrom 56 = .ok (.goto (-48), 3) := by decide +kernel
theorem dX0_mostFrom_59 : decode cX0_mostFrom 59 = .ok (.iload_n 3, 1) := by decide +kernel
theorem dX0_mostFrom_60 : decode cX0_mostFrom 60 = .ok (.ireturn, 1) := by decide +kernel
theorem dX0_wantingFrom_0 : decode cX0_wantingFrom 0 = .ok (.iconst 0, 1) := by decide +kernel
theorem dX0_wantingFrom_1 : decode cX0_wantingFrom 1 = .ok (.istore_n 3, 1) := by decide +kernel
theorem dX0_wantingFrom_2 : decode cX0_wantingFrom 2 = .ok (.iload_n 1, 1) := by decide +kernel
theorem dX0_wantingFrom_3 : decode cX0_wantingFrom 3 = .ok (.istore 4, 2) := by decide +kernel
theorem dX0_wantingFrom_5 : decode cX0_wantingFrom 5 = .ok (.iload 4, 2) := by decide +kernel
theorem dX0_wantingFrom_7 : decode cX0_wantingFrom 7 = .ok (.aload_n 0, 1) := by decide +kernel
theorem dX0_wantingFrom_8 : decode cX0_wantingFrom 8 = .ok (.getfield 18, 3) := by decide +kernel
theorem dX0_wantingFrom_11 : decode cX0_wantingFrom 11 = .ok (.getfield 36, 3) := by decide +kernel
theorem dX0_wantingFrom_14 : decode cX0_wantingFrom 14 = .ok (.if_icmp .ge 26, 3) := by decide +kernel
theorem dX0_wantingFrom_17 : decode cX0_wantingFrom 17 = .ok (.aload_n 0, 1) := by decide +kernel
theorem dX0_wantingFrom_18 : decode cX0_wantingFrom 18 = .ok (.getfield 18, 3) := by decide +kernel
theorem dX0_wantingFrom_21 : decode cX0_wantingFrom 21 = .ok (.getfield 53, 3) := by decide +kernel
theorem dX0_wantingFrom_24 : decode cX0_wantingFrom 24 = .ok (.iload 4, 2) := by decide +kernel
theorem dX0_wantingFrom_26 : decode cX0_wantingFrom 26 = .ok (.iaload, 1) := by decide +kernel
theorem dX0_wantingFrom_27 : decode cX0_wantingFrom 27 = .ok (.iload_n 2, 1) := by decide +kernel
theorem dX0_wantingFrom_28 : decode cX0_wantingFrom 28 = .ok (.if_icmp .ne 6, 3) := by decide +kernel
theorem dX0_wantingFrom_31 : decode cX0_wantingFrom 31 = .ok (.iinc 3 1, 3) := by decide +kernel
theorem dX0_wantingFrom_34 : decode cX0_wantingFrom 34 = .ok (.iinc 4 1, 3) := by decide +kernel
theorem dX0_wantingFrom_37 : decode cX0_wantingFrom 37 = .ok (.goto (-32), 3) := by decide +kernel
theorem dX0_wantingFrom_40 : decode cX0_wantingFrom 40 = .ok (.iload_n 3, 1) := by decide +kernel
theorem dX0_wantingFrom_41 : decode cX0_wantingFrom 41 = .ok (.ireturn, 1) := by decide +kernel
set_option maxRecDepth 20000 in
theorem ggX0_freeOf_X5_has : GoodIn wsX0_freeOf wsX5_has := goodIn_r _ [8] (by decide +kernel) (by decide +kernel)
set_option maxRecDepth 20000 in
theorem gX0_freeOf_X5_has : GoodIn wsX0_freeOf (va_wsS RX0 46 yX5_has wsX5_has) := goodIn_app (goodIn_of _ (by decide +kernel)) ggX0_freeOf_X5_has
theorem dX0_freeOf_0 : decode cX0_freeOf 0 = .ok (.iconst 0, 1) := by decide +kernel
theorem dX0_freeOf_1 : decode cX0_freeOf 1 = .ok (.istore_n 3, 1) := by decide +kernel
theorem dX0_freeOf_2 : decode cX0_freeOf 2 = .ok (.iconst 0, 1) := by decide +kernel
theorem dX0_freeOf_3 : decode cX0_freeOf 3 = .ok (.istore 4, 2) := by decide +kernel
theorem dX0_freeOf_5 : decode cX0_freeOf 5 = .ok (.iload 4, 2) := by decide +kernel
theorem dX0_freeOf_7 : decode cX0_freeOf 7 = .ok (.aload_n 0, 1) := by decide +kernel
theorem dX0_freeOf_8 : decode cX0_freeOf 8 = .ok (.getfield 18, 3) := by decide +kernel
theorem dX0_freeOf_11 : decode cX0_freeOf 11 = .ok (.getfield 22, 3) := by decide +kernel
theorem dX0_freeOf_14 : decode cX0_freeOf 14 = .ok (.if_icmp .ge 35, 3) := by decide +kernel
theorem dX0_freeOf_17 : decode cX0_freeOf 17 = .ok (.iload_n 1, 1) := by decide +kernel
theorem dX0_freeOf_18 : decode cX0_freeOf 18 = .ok (.iload 4, 2) := by decide +kernel
theorem dX0_freeOf_20 : decode cX0_freeOf 20 = .ok (.invokestatic 46, 3) := by decide +kernel
theorem dX0_freeOf_23 : decode cX0_freeOf 23 = .ok (.ifCond .eq 20, 3) := by decide +kernel
theorem dX0_freeOf_26 : decode cX0_freeOf 26 = .ok (.aload_n 0, 1) := by decide +kernel
theorem dX0_freeOf_27 : decode cX0_freeOf 27 = .ok (.getfield 18, 3) := by decide +kernel
theorem dX0_freeOf_30 : decode cX0_freeOf 30 = .ok (.getfield 50, 3) := by decide +kernel
theorem dX0_freeOf_33 : decode cX0_freeOf 33 = .ok (.iload 4, 2) := by decide +kernel
theorem dX0_freeOf_35 : decode cX0_freeOf 35 = .ok (.iaload, 1) := by decide +kernel
theorem dX0_freeOf_36 : decode cX0_freeOf 36 = .ok (.iload_n 2, 1) := by decide +kernel
theorem dX0_freeOf_37 : decode cX0_freeOf 37 = .ok (.if_icmp .ne 6, 3) := by decide +kernel
theorem dX0_freeOf_40 : decode cX0_freeOf 40 = .ok (.iinc 3 1, 3) := by decide +kernel
theorem dX0_freeOf_43 : decode cX0_freeOf 43 = .ok (.iinc 4 1, 3) := by decide +kernel
theorem dX0_freeOf_46 : decode cX0_freeOf 46 = .ok (.goto (-41), 3) := by decide +kernel
theorem dX0_freeOf_49 : decode cX0_freeOf 49 = .ok (.iload_n 3, 1) := by decide +kernel
theorem dX0_freeOf_50 : decode cX0_freeOf 50 = .ok (.ireturn, 1) := by decide +kernel
theorem dX1_init_0 : decode cX1_init 0 = .ok (.aload_n 0, 1) := by decide +kernel
theorem dX1_init_1 : decode cX1_init 1 = .ok (.invokespecial 3, 3) := by decide +kernel
theorem dX1_init_4 : decode cX1_init 4 = .ok (.aload_n 0, 1) := by decide +kernel
theorem dX1_init_5 : decode cX1_init 5 = .ok (.iconst 4, 1) := by decide +kernel
theorem dX1_init_6 : decode cX1_init 6 = .ok (.newarray .int, 2) := by decide +kernel
theorem dX1_init_8 : decode cX1_init 8 = .ok (.putfield 9, 3) := by decide +kernel
theorem dX1_init_11 : decode cX1_init 11 = .ok (.aload_n 0, 1) := by decide +kernel
theorem dX1_init_12 : decode cX1_init 12 = .ok (.iconst 4, 1) := by decide +kernel
theorem dX1_init_13 : decode cX1_init 13 = .ok (.newarray .int, 2) := by decide +kernel
theorem dX1_init_15 : decode cX1_init 15 = .ok (.putfield 15, 3) := by decide +kernel
theorem dX1_init_18 : decode cX1_init 18 = .ok (.aload_n 0, 1) := by decide +kernel
theorem dX1_init_19 : decode cX1_init 19 = .ok (.bipush 11, 2) := by decide +kernel
theorem dX1_init_21 : decode cX1_init 21 = .ok (.newarray .int, 2) := by decide +kernel
theorem dX1_init_23 : decode cX1_init 23 = .ok (.putfield 18, 3) := by decide +kernel
theorem dX1_init_26 : decode cX1_init 26 = .ok (.return_, 1) := by decide +kernel
theorem dX1_add_0 : decode cX1_add 0 = .ok (.aload_n 0, 1) := by decide +kernel
theorem dX1_add_1 : decode cX1_add 1 = .ok (.getfield 21, 3) := by decide +kernel
theorem dX1_add_4 : decode cX1_add 4 = .ok (.iconst 4, 1) := by decide +kernel
theorem dX1_add_5 : decode cX1_add 5 = .ok (.if_icmp .ge 33, 3) := by decide +kernel
theorem dX1_add_8 : decode cX1_add 8 = .ok (.aload_n 0, 1) := by decide +kernel
theorem dX1_add_9 : decode cX1_add 9 = .ok (.getfield 9, 3) := by decide +kernel
theorem dX1_add_12 : decode cX1_add 12 = .ok (.aload_n 0, 1) := by decide +kernel
theorem dX1_add_13 : decode cX1_add 13 = .ok (.getfield 21, 3) := by decide +kernel
theorem dX1_add_16 : decode cX1_add 16 = .ok (.iload_n 1, 1) := by decide +kernel
theorem dX1_add_17 : decode cX1_add 17 = .ok (.iastore, 1) := by decide +kernel
theorem dX1_add_18 : decode cX1_add 18 = .ok (.aload_n 0, 1) := by decide +kernel
theorem dX1_add_19 : decode cX1_add 19 = .ok (.getfield 15, 3) := by decide +kernel
theorem dX1_add_22 : decode cX1_add 22 = .ok (.aload_n 0, 1) := by decide +kernel
theorem dX1_add_23 : decode cX1_add 23 = .ok (.getfield 21, 3) := by decide +kernel
theorem dX1_add_26 : decode cX1_add 26 = .ok (.iload_n 2, 1) := by decide +kernel
theorem dX1_add_27 : decode cX1_add 27 = .ok (.iastore, 1) := by decide +kernel
theorem dX1_add_28 : decode cX1_add 28 = .ok (.aload_n 0, 1) := by decide +kernel
theorem dX1_add_29 : decode cX1_add 29 = .ok (.dup, 1) := by decide +kernel
theorem dX1_add_30 : decode cX1_add 30 = .ok (.getfield 21, 3) := by decide +kernel
theorem dX1_add_33 : decode cX1_add 33 = .ok (.iconst 1, 1) := by decide +kernel
theorem dX1_add_34 : decode cX1_add 34 = .ok (.iadd, 1) := by decide +kernel
theorem dX1_add_35 : decode cX1_add 35 = .ok (.putfield 21, 3) := by decide +kernel
theorem dX1_add_38 : decode cX1_add 38 = .ok (.return_, 1) := by decide +kernel
set_option maxRecDepth 20000 in
theorem ggX1_manyDeeds_X1_areSo : GoodIn wsX1_manyDeeds wsX1_areSo := goodIn_r _ [5, 6, 7, 8, 9, 10, 4, 11, 12, 13, 14, 15, 16, 17, 18, 19, 20, 21, 22, 23] (by decide +kernel) (by decide +kernel)
set_option maxRecDepth 20000 in
theorem gX1_manyDeeds_X1_areSo : GoodIn wsX1_manyDeeds (wsV RX1 25 RX1 yX1_areSo wsX1_areSo) := goodIn_app (goodIn_of _ (by decide +kernel)) ggX1_manyDeeds_X1_areSo
theorem dX1_manyDeeds_0 : decode cX1_manyDeeds 0 = .ok (.iconst 0, 1) := by decide +kernel
theorem dX1_manyDeeds_1 : decode cX1_manyDeeds 1 = .ok (.istore_n 1, 1) := by decide +kernel
theorem dX1_manyDeeds_2 : decode cX1_manyDeeds 2 = .ok (.iconst 0, 1) := by decide +kernel
theorem dX1_manyDeeds_3 : decode cX1_manyDeeds 3 = .ok (.istore_n 2, 1) := by decide +kernel
theorem dX1_manyDeeds_4 : decode cX1_manyDeeds 4 = .ok (.iload_n 2, 1) := by decide +kernel
theorem dX1_manyDeeds_5 : decode cX1_manyDeeds 5 = .ok (.bipush 100, 2) := by decide +kernel
theorem dX1_manyDeeds_7 : decode cX1_manyDeeds 7 = .ok (.if_icmp .ge 20, 3) := by decide +kernel
theorem dX1_manyDeeds_10 : decode cX1_manyDeeds 10 = .ok (.aload_n 0, 1) := by decide +kernel
theorem dX1_manyDeeds_11 : decode cX1_manyDeeds 11 = .ok (.iload_n 2, 1) := by decide +kernel
theorem dX1_manyDeeds_12 : decode cX1_manyDeeds 12 = .ok (.invokevirtual 25, 3) := by decide +kernel
theorem dX1_manyDeeds_15 : decode cX1_manyDeeds 15 = .ok (.ifCond .eq 6, 3) := by decide +kernel
theorem dX1_manyDeeds_18 : decode cX1_manyDeeds 18 = .ok (.iinc 1 1, 3) := by decide +kernel
theorem dX1_manyDeeds_21 : decode cX1_manyDeeds 21 = .ok (.iinc 2 1, 3) := by decide +kernel
theorem dX1_manyDeeds_24 : decode cX1_manyDeeds 24 = .ok (.goto (-20), 3) := by decide +kernel
theorem dX1_manyDeeds_27 : decode cX1_manyDeeds 27 = .ok (.iload_n 1, 1) := by decide +kernel
theorem dX1_manyDeeds_28 : decode cX1_manyDeeds 28 = .ok (.ireturn, 1) := by decide +kernel
set_option maxRecDepth 20000 in
theorem ggX1_firstDeeds_X1_areSo : GoodIn wsX1_firstDeeds wsX1_areSo := goodIn_r _ [5, 6, 7, 8, 9, 10, 4, 11, 12, 13, 14, 15, 16, 17, 18, 19, 20, 21, 22, 23] (by decide +kernel) (by decide +kernel)
set_option maxRecDepth 20000 in
theorem gX1_firstDeeds_X1_areSo : GoodIn wsX1_firstDeeds (wsV RX1 25 RX1 yX1_areSo wsX1_areSo) := goodIn_app (goodIn_of _ (by decide +kernel)) ggX1_firstDeeds_X1_areSo
theorem dX1_firstDeeds_0 : decode cX1_firstDeeds 0 = .ok (.iconst 0, 1) := by decide +kernel
theorem dX1_firstDeeds_1 : decode cX1_firstDeeds 1 = .ok (.istore_n 1, 1) := by decide +kernel
theorem dX1_firstDeeds_2 : decode cX1_firstDeeds 2 = .ok (.iload_n 1, 1) := by decide +kernel
theorem dX1_firstDeeds_3 : decode cX1_firstDeeds 3 = .ok (.bipush 100, 2) := by decide +kernel
theorem dX1_firstDeeds_5 : decode cX1_firstDeeds 5 = .ok (.if_icmp .ge 19, 3) := by decide +kernel
theorem dX1_firstDeeds_8 : decode cX1_firstDeeds 8 = .ok (.aload_n 0, 1) := by decide +kernel
theorem dX1_firstDeeds_9 : decode cX1_firstDeeds 9 = .ok (.iload_n 1, 1) := by decide +kernel
theorem dX1_firstDeeds_10 : decode cX1_firstDeeds 10 = .ok (.invokevirtual 25, 3) := by decide +kernel
theorem dX1_firstDeeds_13 : decode cX1_firstDeeds 13 = .ok (.ifCond .eq 5, 3) := by decide +kernel
theorem dX1_firstDeeds_16 : decode cX1_firstDeeds 16 = .ok (.iload_n 1, 1) := by decide +kernel
theorem dX1_firstDeeds_17 : decode cX1_firstDeeds 17 = .ok (.ireturn, 1) := by decide +kernel
theorem dX1_firstDeeds_18 : decode cX1_firstDeeds 18 = .ok (.iinc 1 1, 3) := by decide +kernel
theorem dX1_firstDeeds_21 : decode cX1_firstDeeds 21 = .ok (.goto (-19), 3) := by decide +kernel
theorem dX1_firstDeeds_24 : decode cX1_firstDeeds 24 = .ok (.bipush (-9), 2) := by decide +kernel
theorem dX1_firstDeeds_26 : decode cX1_firstDeeds 26 = .ok (.ireturn, 1) := by decide +kernel
set_option maxRecDepth 20000 in
theorem ggX1_mostAlike_J7_fill_53178 : GoodIn wsX1_mostAlike wsJ7_fill_53178 := goodIn_r _ [9] (by decide +kernel) (by decide +kernel)
set_option maxRecDepth 20000 in
theorem gX1_mostAlike_J7_fill_53178 : GoodIn wsX1_mostAlike (va_wsS RX1 29 yJ7_fill_53178 wsJ7_fill_53178) := goodIn_app (goodIn_of _ (by decide +kernel)) ggX1_mostAlike_J7_fill_53178
set_option maxRecDepth 20000 in
theorem ggX1_mostAlike_X1_areSo : GoodIn wsX1_mostAlike wsX1_areSo := goodIn_r _ [14, 15, 16, 17, 18, 19, 13, 20, 21, 22, 23, 24, 25, 3, 4, 5, 26, 27, 28, 29] (by decide +kernel) (by decide +kernel)
set_option maxRecDepth 20000 in
theorem gX1_mostAlike_X1_areSo : GoodIn wsX1_mostAlike (wsV RX1 25 RX1 yX1_areSo wsX1_areSo) := goodIn_app (goodIn_of _ (by decide +kernel)) ggX1_mostAlike_X1_areSo
set_option maxRecDepth 20000 in
theorem ggX1_mostAlike_X1_widthBy : GoodIn wsX1_mostAlike wsX1_widthBy := goodIn_r _ [20, 21, 22, 23, 24, 25, 3, 4, 5] (by decide +kernel) (by decide +kernel)
set_option maxRecDepth 20000 in
theorem gX1_mostAlike_X1_widthBy : GoodIn wsX1_mostAlike (va_wsS RX1 35 yX1_widthBy wsX1_widthBy) := goodIn_app (goodIn_of _ (by decide +kernel)) ggX1_mostAlike_X1_widthBy
theorem dX1_mostAlike_0 : decode cX1_mostAlike 0 = .ok (.aload_n 0, 1) := by decide +kernel
theorem dX1_mostAlike_1 : decode cX1_mostAlike 1 = .ok (.getfield 18, 3) := by decide +kernel
theorem dX1_mostAlike_4 : decode cX1_mostAlike 4 = .ok (.iconst 0, 1) := by decide +kernel
theorem dX1_mostAlike_5 : decode cX1_mostAlike 5 = .ok (.invokestatic 29, 3) := by decide +kernel
theorem dX1_mostAlike_8 : decode cX1_mostAlike 8 = .ok (.iconst 0, 1) := by decide +kernel
theorem dX1_mostAlike_9 : decode cX1_mostAlike 9 = .ok (.istore_n 2, 1) := by decide +kernel
theorem dX1_mostAlike_10 : decode cX1_mostAlike 10 = .ok (.iconst 0, 1) := by decide +kernel
theorem dX1_mostAlike_11 : decode cX1_mostAlike 11 = .ok (.istore_n 3, 1) := by decide +kernel
theorem dX1_mostAlike_12 : decode cX1_mostAlike 12 = .ok (.iload_n 3, 1) := by decide +kernel
theorem dX1_mostAlike_13 : decode cX1_mostAlike 13 = .ok (.bipush 100, 2) := by decide +kernel
theorem dX1_mostAlike_15 : decode cX1_mostAlike 15 = .ok (.if_icmp .ge 47, 3) := by decide +kernel
theorem dX1_mostAlike_18 : decode cX1_mostAlike 18 = .ok (.aload_n 0, 1) := by decide +kernel
theorem dX1_mostAlike_19 : decode cX1_mostAlike 19 = .ok (.iload_n 3, 1) := by decide +kernel
theorem dX1_mostAlike_20 : decode cX1_mostAlike 20 = .ok (.invokevirtual 25, 3) := by decide +kernel
theorem dX1_mostAlike_23 : decode cX1_mostAlike 23 = .ok (.ifCond .eq 33, 3) := by decide +kernel
theorem dX1_mostAlike_26 : decode cX1_mostAlike 26 = .ok (.iload_n 3, 1) := by decide +kernel
theorem dX1_mostAlike_27 : decode cX1_mostAlike 27 = .ok (.iload_n 1, 1) := by decide +kernel
theorem dX1_mostAlike_28 : decode cX1_mostAlike 28 = .ok (.invokestatic 35, 3) := by decide +kernel
theorem dX1_mostAlike_31 : decode cX1_mostAlike 31 = .ok (.istore 4, 2) := by decide +kernel
theorem dX1_mostAlike_33 : decode cX1_mostAlike 33 = .ok (.aload_n 0, 1) := by decide +kernel
theorem dX1_mostAlike_34 : decode cX1_mostAlike 34 = .ok (.getfield 18, 3) := by decide +kernel
theorem dX1_mostAlike_37 : decode cX1_mostAlike 37 = .ok (.iload 4, 2) := by decide +kernel
theorem dX1_mostAlike_39 : decode cX1_mostAlike 39 = .ok (.dup2, 1) := by decide +kernel
theorem dX1_mostAlike_40 : decode cX1_mostAlike 40 = .ok (.iaload, 1) := by decide +kernel
theorem dX1_mostAlike_41 : decode cX1_mostAlike 41 = .ok (.iconst 1, 1) := by decide +kernel
theorem dX1_mostAlike_42 : decode cX1_mostAlike 42 = .ok (.iadd, 1) := by decide +kernel
theorem dX1_mostAlike_43 : decode cX1_mostAlike 43 = .ok (.iastore, 1) := by decide +kernel
theorem dX1_mostAlike_44 : decode cX1_mostAlike 44 = .ok (.iload_n 2, 1) := by decide +kernel
theorem dX1_mostAlike_45 : decode cX1_mostAlike 45 = .ok (.aload_n 0, 1) := by decide +kernel
theorem dX1_mostAlike_46 : decode cX1_mostAlike 46 = .ok (.getfield 18, 3) := by decide +kernel
theorem dX1_mostAlike_49 : decode cX1_mostAlike 49 = .ok (.iload 4, 2) := by decide +kernel
theorem dX1_mostAlike_51 : decode cX1_mostAlike 51 = .ok (.iaload, 1) := by decide +kernel
theorem dX1_mostAlike_52 : decode cX1_mostAlike 52 = .ok (.invokestatic 39, 3) := by decide +kernel
theorem dX1_mostAlike_55 : decode cX1_mostAlike 55 = .ok (.istore_n 2, 1) := by decide +kernel
theorem dX1_mostAlike_56 : decode cX1_mostAlike 56 = .ok (.iinc 3 1, 3) := by decide +kernel
theorem dX1_mostAlike_59 : decode cX1_mostAlike 59 = .ok (.goto (-47), 3) := by decide +kernel
theorem dX1_mostAlike_62 : decode cX1_mostAlike 62 = .ok (.iload_n 2, 1) := by decide +kernel
theorem dX1_mostAlike_63 : decode cX1_mostAlike 63 = .ok (.ireturn, 1) := by decide +kernel
set_option maxRecDepth 20000 in
theorem ggX1_areSo_X1_widthBy : GoodIn wsX1_areSo wsX1_widthBy := goodIn_r _ [7, 8, 9, 10, 11, 12, 13, 14, 15] (by decide +kernel) (by decide +kernel)
set_option maxRecDepth 20000 in
theorem gX1_areSo_X1_widthBy : GoodIn wsX1_areSo (va_wsS RX1 35 yX1_widthBy wsX1_widthBy) := goodIn_app (goodIn_of _ (by decide +kernel)) ggX1_areSo_X1_widthBy
theorem dX1_areSo_0 : decode cX1_areSo 0 = .ok (.iconst 0, 1) := by decide +kernel
theorem dX1_areSo_1 : decode cX1_areSo 1 = .ok (.istore_n 2, 1) := by decide +kernel
theorem dX1_areSo_2 : decode cX1_areSo 2 = .ok (.iload_n 2, 1) := by decide +kernel
theorem dX1_areSo_3 : decode cX1_areSo 3 = .ok (.aload_n 0, 1) := by decide +kernel
theorem dX1_areSo_4 : decode cX1_areSo 4 = .ok (.getfield 21, 3) := by decide +kernel
theorem dX1_areSo_7 : decode cX1_areSo 7 = .ok (.if_icmp .ge 30, 3) := by decide +kernel
theorem dX1_areSo_10 : decode cX1_areSo 10 = .ok (.iload_n 1, 1) := by decide +kernel
theorem dX1_areSo_11 : decode cX1_areSo 11 = .ok (.aload_n 0, 1) := by decide +kernel
theorem dX1_areSo_12 : decode cX1_areSo 12 = .ok (.getfield 15, 3) := by decide +kernel
theorem dX1_areSo_15 : decode cX1_areSo 15 = .ok (.iload_n 2, 1) := by decide +kernel
theorem dX1_areSo_16 : decode cX1_areSo 16 = .ok (.iaload, 1) := by decide +kernel
theorem dX1_areSo_17 : decode cX1_areSo 17 = .ok (.invokestatic 35, 3) := by decide +kernel
theorem dX1_areSo_20 : decode cX1_areSo 20 = .ok (.aload_n 0, 1) := by decide +kernel
theorem dX1_areSo_21 : decode cX1_areSo 21 = .ok (.getfield 9, 3) := by decide +kernel
theorem dX1_areSo_24 : decode cX1_areSo 24 = .ok (.iload_n 2, 1) := by decide +kernel
theorem dX1_areSo_25 : decode cX1_areSo 25 = .ok (.iaload, 1) := by decide +kernel
theorem dX1_areSo_26 : decode cX1_areSo 26 = .ok (.if_icmp .eq 5, 3) := by decide +kernel
theorem dX1_areSo_29 : decode cX1_areSo 29 = .ok (.iconst 0, 1) := by decide +kernel
theorem dX1_areSo_30 : decode cX1_areSo 30 = .ok (.ireturn, 1) := by decide +kernel
theorem dX1_areSo_31 : decode cX1_areSo 31 = .ok (.iinc 2 1, 3) := by decide +kernel
theorem dX1_areSo_34 : decode cX1_areSo 34 = .ok (.goto (-32), 3) := by decide +kernel
theorem dX1_areSo_37 : decode cX1_areSo 37 = .ok (.iconst 1, 1) := by decide +kernel
theorem dX1_areSo_38 : decode cX1_areSo 38 = .ok (.ireturn, 1) := by decide +kernel
set_option maxRecDepth 20000 in
theorem ggX1_widthBy_X2_widthBy : GoodIn wsX1_widthBy wsX2_widthBy := goodIn_r _ [4, 5, 6, 7, 8] (by decide +kernel) (by decide +kernel)
set_option maxRecDepth 20000 in
theorem gX1_widthBy_X2_widthBy : GoodIn wsX1_widthBy (va_wsS RX1 44 yX2_widthBy wsX2_widthBy) := goodIn_app (goodIn_of _ (by decide +kernel)) ggX1_widthBy_X2_widthBy
theorem dX1_widthBy_0 : decode cX1_widthBy 0 = .ok (.iload_n 0, 1) := by decide +kernel
theorem dX1_widthBy_1 : decode cX1_widthBy 1 = .ok (.bipush 10, 2) := by decide +kernel
theorem dX1_widthBy_3 : decode cX1_widthBy 3 = .ok (.idiv, 1) := by decide +kernel
theorem dX1_widthBy_4 : decode cX1_widthBy 4 = .ok (.iload_n 0, 1) := by decide +kernel
theorem dX1_widthBy_5 : decode cX1_widthBy 5 = .ok (.bipush 10, 2) := by decide +kernel
theorem dX1_widthBy_7 : decode cX1_widthBy 7 = .ok (.irem, 1) := by decide +kernel
theorem dX1_widthBy_8 : decode cX1_widthBy 8 = .ok (.iload_n 1, 1) := by decide +kernel
theorem dX1_widthBy_9 : decode cX1_widthBy 9 = .ok (.invokestatic 44, 3) := by decide +kernel
theorem dX1_widthBy_12 : decode cX1_widthBy 12 = .ok (.ireturn, 1) := by decide +kernel
theorem dX2_init_0 : decode cX2_init 0 = .ok (.aload_n 0, 1) := by decide +kernel
theorem dX2_init_1 : decode cX2_init 1 = .ok (.invokespecial 3, 3) := by decide +kernel
theorem dX2_init_4 : decode cX2_init 4 = .ok (.aload_n 0, 1) := by decide +kernel
theorem dX2_init_5 : decode cX2_init 5 = .ok (.bipush 9, 2) := by decide +kernel
theorem dX2_init_7 : decode cX2_init 7 = .ok (.newarray .int, 2) := by decide +kernel
theorem dX2_init_9 : decode cX2_init 9 = .ok (.putfield 9, 3) := by decide +kernel
theorem dX2_init_12 : decode cX2_init 12 = .ok (.aload_n 0, 1) := by decide +kernel
theorem dX2_init_13 : decode cX2_init 13 = .ok (.bipush 9, 2) := by decide +kernel
theorem dX2_init_15 : decode cX2_init 15 = .ok (.newarray .int, 2) := by decide +kernel
theorem dX2_init_17 : decode cX2_init 17 = .ok (.putfield 15, 3) := by decide +kernel
theorem dX2_init_20 : decode cX2_init 20 = .ok (.aload_n 0, 1) := by decide +kernel
theorem dX2_init_21 : decode cX2_init 21 = .ok (.bipush 9, 2) := by decide +kernel
theorem dX2_init_23 : decode cX2_init 23 = .ok (.newarray .int, 2) := by decide +kernel
theorem dX2_init_25 : decode cX2_init 25 = .ok (.putfield 18, 3) := by decide +kernel
theorem dX2_init_28 : decode cX2_init 28 = .ok (.aload_n 0, 1) := by decide +kernel
theorem dX2_init_29 : decode cX2_init 29 = .ok (.bipush 6, 2) := by decide +kernel
theorem dX2_init_31 : decode cX2_init 31 = .ok (.newarray .int, 2) := by decide +kernel
theorem dX2_init_33 : decode cX2_init 33 = .ok (.putfield 21, 3) := by decide +kernel
theorem dX2_init_36 : decode cX2_init 36 = .ok (.return_, 1) := by decide +kernel
set_option maxRecDepth 20000 in
theorem ggX2_begin_J7_fill_53178 : GoodIn wsX2_begin wsJ7_fill_53178 := goodIn_r _ [15] (by decide +kernel) (by decide +kernel)
set_option maxRecDepth 20000 in
theorem gX2_begin_J7_fill_53178 : GoodIn wsX2_begin (va_wsS RX2 35 yJ7_fill_53178 wsJ7_fill_53178) := goodIn_app (goodIn_of _ (by decide +kernel)) ggX2_begin_J7_fill_53178
theorem dX2_begin_0 : decode cX2_begin 0 = .ok (.aload_n 1, 1) := by decide +kernel
theorem dX2_begin_1 : decode cX2_begin 1 = .ok (.getfield 24, 3) := by decide +kernel
theorem dX2_begin_4 : decode cX2_begin 4 = .ok (.iconst 0, 1) := by decide +kernel
theorem dX2_begin_5 : decode cX2_begin 5 = .ok (.aload_n 0, 1) := by decide +kernel
theorem dX2_begin_6 : decode cX2_begin 6 = .ok (.getfield 9, 3) := by decide +kernel
theorem dX2_begin_9 : decode cX2_begin 9 = .ok (.iconst 0, 1) := by decide +kernel
theorem dX2_begin_10 : decode cX2_begin 10 = .ok (.bipush 9, 2) := by decide +kernel
theorem dX2_begin_12 : decode cX2_begin 12 = .ok (.invokestatic 29, 3) := by decide +kernel
theorem dX2_begin_15 : decode cX2_begin 15 = .ok (.aload_n 0, 1) := by decide +kernel
theorem dX2_begin_16 : decode cX2_begin 16 = .ok (.getfield 15, 3) := by decide +kernel
theorem dX2_begin_19 : decode cX2_begin 19 = .ok (.iconst 0, 1) := by decide +kernel
theorem dX2_begin_20 : decode cX2_begin 20 = .ok (.invokestatic 35, 3) := by decide +kernel
theorem dX2_begin_23 : decode cX2_begin 23 = .ok (.aload_n 0, 1) := by decide +kernel
theorem dX2_begin_24 : decode cX2_begin 24 = .ok (.getfield 18, 3) := by decide +kernel
theorem dX2_begin_27 : decode cX2_begin 27 = .ok (.iconst 0, 1) := by decide +kernel
theorem dX2_begin_28 : decode cX2_begin 28 = .ok (.invokestatic 35, 3) := by decide +kernel
theorem dX2_begin_31 : decode cX2_begin 31 = .ok (.aload_n 1, 1) := by decide +kernel
theorem dX2_begin_32 : decode cX2_begin 32 = .ok (.getfield 41, 3) := by decide +kernel
theorem dX2_begin_35 : decode cX2_begin 35 = .ok (.iconst 0, 1) := by decide +kernel
theorem dX2_begin_36 : decode cX2_begin 36 = .ok (.aload_n 0, 1) := by decide +kernel
theorem dX2_begin_37 : decode cX2_begin 37 = .ok (.getfield 21, 3) := by decide +kernel
theorem dX2_begin_40 : decode cX2_begin 40 = .ok (.iconst 0, 1) := by decide +kernel
theorem dX2_begin_41 : decode cX2_begin 41 = .ok (.bipush 6, 2) := by decide +kernel
theorem dX2_begin_43 : decode cX2_begin 43 = .ok (.invokestatic 29, 3) := by decide +kernel
theorem dX2_begin_46 : decode cX2_begin 46 = .ok (.aload_n 0, 1) := by decide +kernel
theorem dX2_begin_47 : decode cX2_begin 47 = .ok (.iconst 0, 1) := by decide +kernel
theorem dX2_begin_48 : decode cX2_begin 48 = .ok (.putfield 42, 3) := by decide +kernel
theorem dX2_begin_51 : decode cX2_begin 51 = .ok (.return_, 1) := by decide +kernel
theorem dX2_become_0 : decode cX2_become 0 = .ok (.aload_n 1, 1) := by decide +kernel
theorem dX2_become_1 : decode cX2_become 1 = .ok (.getfield 9, 3) := by decide +kernel
theorem dX2_become_4 : decode cX2_become 4 = .ok (.iconst 0, 1) := by decide +kernel
theorem dX2_become_5 : decode cX2_become 5 = .ok (.aload_n 0, 1) := by decide +kernel
theorem dX2_become_6 : decode cX2_become 6 = .ok (.getfield 9, 3) := by decide +kernel
theorem dX2_become_9 : decode cX2_become 9 = .ok (.iconst 0, 1) := by decide +kernel
theorem dX2_become_10 : decode cX2_become 10 = .ok (.bipush 9, 2) := by decide +kernel
theorem dX2_become_12 : decode cX2_become 12 = .ok (.invokestatic 29, 3) := by decide +kernel
theorem dX2_become_15 : decode cX2_become 15 = .ok (.aload_n 1, 1) := by decide +kernel
theorem dX2_become_16 : decode cX2_become 16 = .ok (.getfield 15, 3) := by decide +kernel
theorem dX2_become_19 : decode cX2_become 19 = .ok (.iconst 0, 1) := by decide +kernel
theorem dX2_become_20 : decode cX2_become 20 = .ok (.aload_n 0, 1) := by decide +kernel
theorem dX2_become_21 : decode cX2_become 21 = .ok (.getfield 15, 3) := by decide +kernel
theorem dX2_become_24 : decode cX2_become 24 = .ok (.iconst 0, 1) := by decide +kernel
theorem dX2_become_25 : decode cX2_become 25 = .ok (.bipush 9, 2) := by decide +kernel
theorem dX2_become_27 : decode cX2_become 27 = .ok (.invokestatic 29, 3) := by decide +kernel
theorem dX2_become_30 : decode cX2_become 30 = .ok (.aload_n 1, 1) := by decide +kernel
theorem dX2_become_31 : decode cX2_become 31 = .ok (.getfield 18, 3) := by decide +kernel
theorem dX2_become_34 : decode cX2_become 34 = .ok (.iconst 0, 1) := by decide +kernel
theorem dX2_become_35 : decode cX2_become 35 = .ok (.aload_n 0, 1) := by decide +kernel
theorem dX2_become_36 : decode cX2_become 36 = .ok (.getfield 18, 3) := by decide +kernel
theorem dX2_become_39 : decode cX2_become 39 = .ok (.iconst 0, 1) := by decide +kernel
theorem dX2_become_40 : decode cX2_become 40 = .ok (.bipush 9, 2) := by decide +kernel
theorem dX2_become_42 : decode cX2_become 42 = .ok (.invokestatic 29, 3) := by decide +kernel
theorem dX2_become_45 : decode cX2_become 45 = .ok (.aload_n 1, 1) := by decide +kernel
theorem dX2_become_46 : decode cX2_become 46 = .ok (.getfield 21, 3) := by decide +kernel
theorem dX2_become_49 : decode cX2_become 49 = .ok (.iconst 0, 1) := by decide +kernel
theorem dX2_become_50 : decode cX2_become 50 = .ok (.aload_n 0, 1) := by decide +kernel
theorem dX2_become_51 : decode cX2_become 51 = .ok (.getfield 21, 3) := by decide +kernel
theorem dX2_become_54 : decode cX2_become 54 = .ok (.iconst 0, 1) := by decide +kernel
theorem dX2_become_55 : decode cX2_become 55 = .ok (.bipush 6, 2) := by decide +kernel
theorem dX2_become_57 : decode cX2_become 57 = .ok (.invokestatic 29, 3) := by decide +kernel
theorem dX2_become_60 : decode cX2_become 60 = .ok (.aload_n 0, 1) := by decide +kernel
theorem dX2_become_61 : decode cX2_become 61 = .ok (.aload_n 1, 1) := by decide +kernel
theorem dX2_become_62 : decode cX2_become 62 = .ok (.getfield 42, 3) := by decide +kernel
theorem dX2_become_65 : decode cX2_become 65 = .ok (.putfield 42, 3) := by decide +kernel
theorem dX2_become_68 : decode cX2_become 68 = .ok (.return_, 1) := by decide +kernel
set_option maxRecDepth 20000 in
theorem ggX2_widthOf_X2_widthBy : GoodIn wsX2_widthOf wsX2_widthBy := goodIn_r _ [7, 8, 9, 10, 11] (by decide +kernel) (by decide +kernel)
set_option maxRecDepth 20000 in
theorem gX2_widthOf_X2_widthBy : GoodIn wsX2_widthOf (va_wsS RX2 46 yX2_widthBy wsX2_widthBy) := goodIn_app (goodIn_of _ (by decide +kernel)) ggX2_widthOf_X2_widthBy
theorem dX2_widthOf_0 : decode cX2_widthOf 0 = .ok (.aload_n 0, 1) := by decide +kernel
theorem dX2_widthOf_1 : decode cX2_widthOf 1 = .ok (.getfield 9, 3) := by decide +kernel
theorem dX2_widthOf_4 : decode cX2_widthOf 4 = .ok (.iload_n 1, 1) := by decide +kernel
theorem dX2_widthOf_5 : decode cX2_widthOf 5 = .ok (.iaload, 1) := by decide +kernel
theorem dX2_widthOf_6 : decode cX2_widthOf 6 = .ok (.aload_n 0, 1) := by decide +kernel
theorem dX2_widthOf_7 : decode cX2_widthOf 7 = .ok (.getfield 18, 3) := by decide +kernel
theorem dX2_widthOf_10 : decode cX2_widthOf 10 = .ok (.iload_n 1, 1) := by decide +kernel
theorem dX2_widthOf_11 : decode cX2_widthOf 11 = .ok (.iaload, 1) := by decide +kernel
theorem dX2_widthOf_12 : decode cX2_widthOf 12 = .ok (.aload_n 0, 1) := by decide +kernel
theorem dX2_widthOf_13 : decode cX2_widthOf 13 = .ok (.getfield 42, 3) := by decide +kernel
theorem dX2_widthOf_16 : decode cX2_widthOf 16 = .ok (.invokestatic 46, 3) := by decide +kernel
theorem dX2_widthOf_19 : decode cX2_widthOf 19 = .ok (.ireturn, 1) := by decide +kernel
theorem dX2_widthBy_0 : decode cX2_widthBy 0 = .ok (.iconst 1, 1) := by decide +kernel
theorem dX2_widthBy_1 : decode cX2_widthBy 1 = .ok (.iload_n 2, 1) := by decide +kernel
theorem dX2_widthBy_2 : decode cX2_widthBy 2 = .ok (.iconst 1, 1) := by decide +kernel
theorem dX2_widthBy_3 : decode cX2_widthBy 3 = .ok (.if_icmp .ne 7, 3) := by decide +kernel
theorem dX2_widthBy_6 : decode cX2_widthBy 6 = .ok (.iload_n 0, 1) := by decide +kernel
theorem dX2_widthBy_7 : decode cX2_widthBy 7 = .ok (.goto 8, 3) := by decide +kernel
theorem dX2_widthBy_10 : decode cX2_widthBy 10 = .ok (.iload_n 0, 1) := by decide +kernel
theorem dX2_widthBy_11 : decode cX2_widthBy 11 = .ok (.iload_n 1, 1) := by decide +kernel
theorem dX2_widthBy_12 : decode cX2_widthBy 12 = .ok (.invokestatic 50, 3) := by decide +kernel
theorem dX2_widthBy_15 : decode cX2_widthBy 15 = .ok (.iadd, 1) := by decide +kernel
theorem dX2_widthBy_16 : decode cX2_widthBy 16 = .ok (.ireturn, 1) := by decide +kernel
set_option maxRecDepth 20000 in
theorem ggX3_init_X2_init : GoodIn wsX3_init wsX2_init := goodIn_r _ [11, 12, 2, 3, 13, 14, 15, 16, 17, 18, 19, 20, 21, 22] (by decide +kernel) (by decide +kernel)
set_option maxRecDepth 20000 in
theorem gX3_init_X2_init : GoodIn wsX3_init (wsX2_init) := ggX3_init_X2_init
theorem dX3_init_0 : decode cX3_init 0 = .ok (.aload_n 0, 1) := by decide +kernel
theorem dX3_init_1 : decode cX3_init 1 = .ok (.invokespecial 3, 3) := by decide +kernel
theorem dX3_init_4 : decode cX3_init 4 = .ok (.aload_n 0, 1) := by decide +kernel
theorem dX3_init_5 : decode cX3_init 5 = .ok (.new 9, 3) := by decide +kernel
theorem dX3_init_8 : decode cX3_init 8 = .ok (.dup, 1) := by decide +kernel
theorem dX3_init_9 : decode cX3_init 9 = .ok (.invokespecial 11, 3) := by decide +kernel
theorem dX3_init_12 : decode cX3_init 12 = .ok (.putfield 12, 3) := by decide +kernel
theorem dX3_init_15 : decode cX3_init 15 = .ok (.aload_n 0, 1) := by decide +kernel
theorem dX3_init_16 : decode cX3_init 16 = .ok (.bipush 10, 2) := by decide +kernel
theorem dX3_init_18 : decode cX3_init 18 = .ok (.anewarray 9, 3) := by decide +kernel
theorem dX3_init_21 : decode cX3_init 21 = .ok (.putfield 18, 3) := by decide +kernel
theorem dX3_init_24 : decode cX3_init 24 = .ok (.iconst 0, 1) := by decide +kernel
theorem dX3_init_25 : decode cX3_init 25 = .ok (.istore_n 1, 1) := by decide +kernel
theorem dX3_init_26 : decode cX3_init 26 = .ok (.iload_n 1, 1) := by decide +kernel
theorem dX3_init_27 : decode cX3_init 27 = .ok (.bipush 10, 2) := by decide +kernel
theorem dX3_init_29 : decode cX3_init 29 = .ok (.if_icmp .ge 22, 3) := by decide +kernel
theorem dX3_init_32 : decode cX3_init 32 = .ok (.aload_n 0, 1) := by decide +kernel
theorem dX3_init_33 : decode cX3_init 33 = .ok (.getfield 18, 3) := by decide +kernel
theorem dX3_init_36 : decode cX3_init 36 = .ok (.iload_n 1, 1) := by decide +kernel
theorem dX3_init_37 : decode cX3_init 37 = .ok (.new 9, 3) := by decide +kernel
theorem dX3_init_40 : decode cX3_init 40 = .ok (.dup, 1) := by decide +kernel
theorem dX3_init_41 : decode cX3_init 41 = .ok (.invokespecial 11, 3) := by decide +kernel
theorem dX3_init_44 : decode cX3_init 44 = .ok (.aastore, 1) := by decide +kernel
theorem dX3_init_45 : decode cX3_init 45 = .ok (.iinc 1 1, 3) := by decide +kernel
theorem dX3_init_48 : decode cX3_init 48 = .ok (.goto (-22), 3) := by decide +kernel
theorem dX3_init_51 : decode cX3_init 51 = .ok (.return_, 1) := by decide +kernel
set_option maxRecDepth 20000 in
theorem ggX3_begin_X2_begin : GoodIn wsX3_begin wsX2_begin := goodIn_r _ [7, 8, 9, 10, 11, 12, 13, 14, 15, 16, 17, 18, 19, 20, 21, 22, 26, 27, 28, 29, 30, 31, 32, 33, 34, 35, 36, 37, 38, 39, 40, 41, 42, 43, 44, 45, 46, 47] (by decide +kernel) (by decide +kernel)
set_option maxRecDepth 20000 in
theorem gX3_begin_X2_begin : GoodIn wsX3_begin (wsV RX3 22 RX2 yX2_begin wsX2_begin) := goodIn_app (goodIn_of _ (by decide +kernel)) ggX3_begin_X2_begin
theorem dX3_begin_0 : decode cX3_begin 0 = .ok (.aload_n 0, 1) := by decide +kernel
theorem dX3_begin_1 : decode cX3_begin 1 = .ok (.getfield 12, 3) := by decide +kernel
theorem dX3_begin_4 : decode cX3_begin 4 = .ok (.aload_n 1, 1) := by decide +kernel
theorem dX3_begin_5 : decode cX3_begin 5 = .ok (.invokevirtual 22, 3) := by decide +kernel
theorem dX3_begin_8 : decode cX3_begin 8 = .ok (.aload_n 0, 1) := by decide +kernel
theorem dX3_begin_9 : decode cX3_begin 9 = .ok (.iconst 0, 1) := by decide +kernel
theorem dX3_begin_10 : decode cX3_begin 10 = .ok (.putfield 26, 3) := by decide +kernel
theorem dX3_begin_13 : decode cX3_begin 13 = .ok (.return_, 1) := by decide +kernel
set_option maxRecDepth 20000 in
theorem ggX3_become_X2_become : GoodIn wsX3_become wsX2_become := goodIn_r _ [8, 9, 10, 11, 12, 13, 14, 15, 16, 17, 21, 22, 23, 24, 25] (by decide +kernel) (by decide +kernel)
set_option maxRecDepth 20000 in
theorem gX3_become_X2_become : GoodIn wsX3_become (wsV RX3 30 RX2 yX2_become wsX2_become) := goodIn_app (goodIn_of _ (by decide +kernel)) ggX3_become_X2_become
theorem dX3_become_0 : decode cX3_become 0 = .ok (.aload_n 0, 1) := by decide +kernel
theorem dX3_become_1 : decode cX3_become 1 = .ok (.getfield 12, 3) := by decide +kernel
theorem dX3_become_4 : decode cX3_become 4 = .ok (.aload_n 1, 1) := by decide +kernel
theorem dX3_become_5 : decode cX3_become 5 = .ok (.getfield 12, 3) := by decide +kernel
theorem dX3_become_8 : decode cX3_become 8 = .ok (.invokevirtual 30, 3) := by decide +kernel
theorem dX3_become_11 : decode cX3_become 11 = .ok (.iconst 0, 1) := by decide +kernel
theorem dX3_become_12 : decode cX3_become 12 = .ok (.istore_n 2, 1) := by decide +kernel
theorem dX3_become_13 : decode cX3_become 13 = .ok (.iload_n 2, 1) := by decide +kernel
theorem dX3_become_14 : decode cX3_become 14 = .ok (.bipush 10, 2) := by decide +kernel
theorem dX3_become_16 : decode cX3_become 16 = .ok (.if_icmp .ge 24, 3) := by decide +kernel
theorem dX3_become_19 : decode cX3_become 19 = .ok (.aload_n 0, 1) := by decide +kernel
theorem dX3_become_20 : decode cX3_become 20 = .ok (.getfield 18, 3) := by decide +kernel
theorem dX3_become_23 : decode cX3_become 23 = .ok (.iload_n 2, 1) := by decide +kernel
theorem dX3_become_24 : decode cX3_become 24 = .ok (.aaload, 1) := by decide +kernel
theorem dX3_become_25 : decode cX3_become 25 = .ok (.aload_n 1, 1) := by decide +kernel
theorem dX3_become_26 : decode cX3_become 26 = .ok (.getfield 18, 3) := by decide +kernel
theorem dX3_become_29 : decode cX3_become 29 = .ok (.iload_n 2, 1) := by decide +kernel
theorem dX3_become_30 : decode cX3_become 30 = .ok (.aaload, 1) := by decide +kernel
theorem dX3_become_31 : decode cX3_become 31 = .ok (.invokevirtual 30, 3) := by decide +kernel
theorem dX3_become_34 : decode cX3_become 34 = .ok (.iinc 2 1, 3) := by decide +kernel
theorem dX3_become_37 : decode cX3_become 37 = .ok (.goto (-24), 3) := by decide +kernel
theorem dX3_become_40 : decode cX3_become 40 = .ok (.aload_n 0, 1) := by decide +kernel
theorem dX3_become_41 : decode cX3_become 41 = .ok (.aload_n 1, 1) := by decide +kernel
theorem dX3_become_42 : decode cX3_become 42 = .ok (.getfield 26, 3) := by decide +kernel
theorem dX3_become_45 : decode cX3_become 45 = .ok (.putfield 26, 3) := by decide +kernel
theorem dX3_become_48 : decode cX3_become 48 = .ok (.return_, 1) := by decide +kernel
set_option maxRecDepth 20000 in
theorem ggX3_remember_X3_loseOldest : GoodIn wsX3_remember wsX3_loseOldest := goodIn_r _ [8, 2, 1, 23, 24, 25] (by decide +kernel) (by decide +kernel)
set_option maxRecDepth 20000 in
theorem gX3_remember_X3_loseOldest : GoodIn wsX3_remember (wsV RX3 34 RX3 yX3_loseOldest wsX3_loseOldest) := goodIn_app (goodIn_of _ (by decide +kernel)) ggX3_remember_X3_loseOldest
set_option maxRecDepth 20000 in
theorem ggX3_remember_X2_become : GoodIn wsX3_remember wsX2_become := goodIn_r _ [13, 14, 15, 16, 17, 18, 19, 20, 21, 22, 26, 27, 28, 29, 30] (by decide +kernel) (by decide +kernel)
set_option maxRecDepth 20000 in
theorem gX3_remember_X2_become : GoodIn wsX3_remember (wsV RX3 30 RX2 yX2_become wsX2_become) := goodIn_app (goodIn_of _ (by decide +kernel)) ggX3_remember_X2_become
theorem dX3_remember_0 : decode cX3_remember 0 = .ok (.aload_n 0, 1) := by decide +kernel
theorem dX3_remember_1 : decode cX3_remember 1 = .ok (.getfield 26, 3) := by decide +kernel
theorem dX3_remember_4 : decode cX3_remember 4 = .ok (.bipush 10, 2) := by decide +kernel
theorem dX3_remember_6 : decode cX3_remember 6 = .ok (.if_icmp .lt 7, 3) := by decide +kernel
theorem dX3_remember_9 : decode cX3_remember 9 = .ok (.aload_n 0, 1) := by decide +kernel
theorem dX3_remember_10 : decode cX3_remember 10 = .ok (.invokevirtual 34, 3) := by decide +kernel
theorem dX3_remember_13 : decode cX3_remember 13 = .ok (.aload_n 0, 1) := by decide +kernel
theorem dX3_remember_14 : decode cX3_remember 14 = .ok (.getfield 18, 3) := by decide +kernel
theorem dX3_remember_17 : decode cX3_remember 17 = .ok (.aload_n 0, 1) := by decide +kernel
theorem dX3_remember_18 : decode cX3_remember 18 = .ok (.getfield 26, 3) := by decide +kernel
theorem dX3_remember_21 : decode cX3_remember 21 = .ok (.aaload, 1) := by decide +kernel
theorem dX3_remember_22 : decode cX3_remember 22 = .ok (.aload_n 0, 1) := by decide +kernel
theorem dX3_remember_23 : decode cX3_remember 23 = .ok (.getfield 12, 3) := by decide +kernel
theorem dX3_remember_26 : decode cX3_remember 26 = .ok (.invokevirtual 30, 3) := by decide +kernel
theorem dX3_remember_29 : decode cX3_remember 29 = .ok (.aload_n 0, 1) := by decide +kernel
theorem dX3_remember_30 : decode cX3_remember 30 = .ok (.dup, 1) := by decide +kernel
theorem dX3_remember_31 : decode cX3_remember 31 = .ok (.getfield 26, 3) := by decide +kernel
theorem dX3_remember_34 : decode cX3_remember 34 = .ok (.iconst 1, 1) := by decide +kernel
theorem dX3_remember_35 : decode cX3_remember 35 = .ok (.iadd, 1) := by decide +kernel
theorem dX3_remember_36 : decode cX3_remember 36 = .ok (.putfield 26, 3) := by decide +kernel
theorem dX3_remember_39 : decode cX3_remember 39 = .ok (.return_, 1) := by decide +kernel
set_option maxRecDepth 20000 in
theorem ggX3_recall_X2_become : GoodIn wsX3_recall wsX2_become := goodIn_r _ [8, 9, 10, 11, 12, 13, 14, 15, 16, 17, 21, 22, 23, 24, 25] (by decide +kernel) (by decide +kernel)
set_option maxRecDepth 20000 in
theorem gX3_recall_X2_become : GoodIn wsX3_recall (wsV RX3 30 RX2 yX2_become wsX2_become) := goodIn_app (goodIn_of _ (by decide +kernel)) ggX3_recall_X2_become
theorem dX3_recall_0 : decode cX3_recall 0 = .ok (.aload_n 0, 1) := by decide +kernel
theorem dX3_recall_1 : decode cX3_recall 1 = .ok (.getfield 26, 3) := by decide +kernel
theorem dX3_recall_4 : decode cX3_recall 4 = .ok (.ifCond .le 29, 3) := by decide +kernel
theorem dX3_recall_7 : decode cX3_recall 7 = .ok (.aload_n 0, 1) := by decide +kernel
theorem dX3_recall_8 : decode cX3_recall 8 = .ok (.dup, 1) := by decide +kernel
theorem dX3_recall_9 : decode cX3_recall 9 = .ok (.getfield 26, 3) := by decide +kernel
theorem dX3_recall_12 : decode cX3_recall 12 = .ok (.iconst 1, 1) := by decide +kernel
theorem dX3_recall_13 : decode cX3_recall 13 = .ok (.isub, 1) := by decide +kernel
theorem dX3_recall_14 : decode cX3_recall 14 = .ok (.putfield 26, 3) := by decide +kernel
theorem dX3_recall_17 : decode cX3_recall 17 = .ok (.aload_n 0, 1) := by decide +kernel
theorem dX3_recall_18 : decode cX3_recall 18 = .ok (.getfield 12, 3) := by decide +kernel
theorem dX3_recall_21 : decode cX3_recall 21 = .ok (.aload_n 0, 1) := by decide +kernel
theorem dX3_recall_22 : decode cX3_recall 22 = .ok (.getfield 18, 3) := by decide +kernel
theorem dX3_recall_25 : decode cX3_recall 25 = .ok (.aload_n 0, 1) := by decide +kernel
theorem dX3_recall_26 : decode cX3_recall 26 = .ok (.getfield 26, 3) := by decide +kernel
theorem dX3_recall_29 : decode cX3_recall 29 = .ok (.aaload, 1) := by decide +kernel
theorem dX3_recall_30 : decode cX3_recall 30 = .ok (.invokevirtual 30, 3) := by decide +kernel
theorem dX3_recall_33 : decode cX3_recall 33 = .ok (.return_, 1) := by decide +kernel
theorem dX3_loseOldest_0 : decode cX3_loseOldest 0 = .ok (.aload_n 0, 1) := by decide +kernel
theorem dX3_loseOldest_1 : decode cX3_loseOldest 1 = .ok (.getfield 18, 3) := by decide +kernel
theorem dX3_loseOldest_4 : decode cX3_loseOldest 4 = .ok (.iconst 0, 1) := by decide +kernel
theorem dX3_loseOldest_5 : decode cX3_loseOldest 5 = .ok (.aaload, 1) := by decide +kernel
theorem dX3_loseOldest_6 : decode cX3_loseOldest 6 = .ok (.astore_n 1, 1) := by decide +kernel
theorem dX3_loseOldest_7 : decode cX3_loseOldest 7 = .ok (.iconst 1, 1) := by decide +kernel
theorem dX3_loseOldest_8 : decode cX3_loseOldest 8 = .ok (.istore_n 2, 1) := by decide +kernel
theorem dX3_loseOldest_9 : decode cX3_loseOldest 9 = .ok (.iload_n 2, 1) := by decide +kernel
theorem dX3_loseOldest_10 : decode cX3_loseOldest 10 = .ok (.bipush 10, 2) := by decide +kernel
theorem dX3_loseOldest_12 : decode cX3_loseOldest 12 = .ok (.if_icmp .ge 23, 3) := by decide +kernel
theorem dX3_loseOldest_15 : decode cX3_loseOldest 15 = .ok (.aload_n 0, 1) := by decide +kernel
theorem dX3_loseOldest_16 : decode cX3_loseOldest 16 = .ok (.getfield 18, 3) := by decide +kernel
theorem dX3_loseOldest_19 : decode cX3_loseOldest 19 = .ok (.iload_n 2, 1) := by decide +kernel
theorem dX3_loseOldest_20 : decode cX3_loseOldest 20 = .ok (.iconst 1, 1) := by decide +kernel
theorem dX3_loseOldest_21 : decode cX3_loseOldest 21 = .ok (.isub, 1) := by decide +kernel
theorem dX3_loseOldest_22 : decode cX3_loseOldest 22 = .ok (.aload_n 0, 1) := by decide +kernel
theorem dX3_loseOldest_23 : decode cX3_loseOldest 23 = .ok (.getfield 18, 3) := by decide +kernel
theorem dX3_loseOldest_26 : decode cX3_loseOldest 26 = .ok (.iload_n 2, 1) := by decide +kernel
theorem dX3_loseOldest_27 : decode cX3_loseOldest 27 = .ok (.aaload, 1) := by decide +kernel
theorem dX3_loseOldest_28 : decode cX3_loseOldest 28 = .ok (.aastore, 1) := by decide +kernel
theorem dX3_loseOldest_29 : decode cX3_loseOldest 29 = .ok (.iinc 2 1, 3) := by decide +kernel
theorem dX3_loseOldest_32 : decode cX3_loseOldest 32 = .ok (.goto (-23), 3) := by decide +kernel
theorem dX3_loseOldest_35 : decode cX3_loseOldest 35 = .ok (.aload_n 0, 1) := by decide +kernel
theorem dX3_loseOldest_36 : decode cX3_loseOldest 36 = .ok (.getfield 18, 3) := by decide +kernel
theorem dX3_loseOldest_39 : decode cX3_loseOldest 39 = .ok (.bipush 9, 2) := by decide +kernel
theorem dX3_loseOldest_41 : decode cX3_loseOldest 41 = .ok (.aload_n 1, 1) := by decide +kernel
theorem dX3_loseOldest_42 : decode cX3_loseOldest 42 = .ok (.aastore, 1) := by decide +kernel
theorem dX3_loseOldest_43 : decode cX3_loseOldest 43 = .ok (.aload_n 0, 1) := by decide +kernel
theorem dX3_loseOldest_44 : decode cX3_loseOldest 44 = .ok (.bipush 9, 2) := by decide +kernel
theorem dX3_loseOldest_46 : decode cX3_loseOldest 46 = .ok (.putfield 26, 3) := by decide +kernel
theorem dX3_loseOldest_49 : decode cX3_loseOldest 49 = .ok (.return_, 1) := by decide +kernel
set_option maxRecDepth 20000 in
theorem ggX4_init_X7_init : GoodIn wsX4_init wsX7_init := goodIn_r _ [6, 7, 8, 9, 10, 1, 11, 12, 13, 14, 15, 16, 17, 18, 19, 20, 21, 22, 23, 24, 25, 26, 27, 28, 29, 30, 31, 32] (by decide +kernel) (by decide +kernel)
set_option maxRecDepth 20000 in
theorem gX4_init_X7_init : GoodIn wsX4_init (wsX7_init) := ggX4_init_X7_init
theorem dX4_init_0 : decode cX4_init 0 = .ok (.aload_n 0, 1) := by decide +kernel
theorem dX4_init_1 : decode cX4_init 1 = .ok (.invokespecial 3, 3) := by decide +kernel
theorem dX4_init_4 : decode cX4_init 4 = .ok (.aload_n 0, 1) := by decide +kernel
theorem dX4_init_5 : decode cX4_init 5 = .ok (.bipush 9, 2) := by decide +kernel
theorem dX4_init_7 : decode cX4_init 7 = .ok (.newarray .int, 2) := by decide +kernel
theorem dX4_init_9 : decode cX4_init 9 = .ok (.putfield 9, 3) := by decide +kernel
theorem dX4_init_12 : decode cX4_init 12 = .ok (.return_, 1) := by decide +kernel
set_option maxRecDepth 20000 in
theorem ggX4_draw_X7_become : GoodIn wsX4_draw wsX7_become := goodIn_r _ [8, 9, 10, 11, 12, 13, 14, 15, 16, 17, 18, 19, 20, 36, 37, 38, 39, 40, 41, 42, 43, 44, 45, 46, 47, 48, 49, 50, 51, 52] (by decide +kernel) (by decide +kernel)
set_option maxRecDepth 20000 in
theorem gX4_draw_X7_become_u15X4 : GoodIn wsX4_draw (va_wsU RX4 15 RX4 "KindStreets$Town" ⟨"KindStreets$Plan", "become", "(LKindStreets$Town;)V"⟩ yX7_become wsX7_become) := goodIn_app (goodIn_of _ (by decide +kernel)) ggX4_draw_X7_become
set_option maxRecDepth 20000 in
theorem ggX4_draw_X2_widthOf : GoodIn wsX4_draw wsX2_widthOf := goodIn_r _ [25, 26, 27, 28, 29, 30, 24, 31, 32, 33, 34, 35, 53, 54, 55, 56, 57] (by decide +kernel) (by decide +kernel)
set_option maxRecDepth 20000 in
theorem gX4_draw_X2_widthOf : GoodIn wsX4_draw (wsV RX4 23 RX2 yX2_widthOf wsX2_widthOf) := goodIn_app (goodIn_of _ (by decide +kernel)) ggX4_draw_X2_widthOf
theorem dX4_draw_0 : decode cX4_draw 0 = .ok (.aload_n 0, 1) := by decide +kernel
theorem dX4_draw_1 : decode cX4_draw 1 = .ok (.aload_n 1, 1) := by decide +kernel
theorem dX4_draw_2 : decode cX4_draw 2 = .ok (.invokevirtual 15, 3) := by decide +kernel
theorem dX4_draw_5 : decode cX4_draw 5 = .ok (.iconst 0, 1) := by decide +kernel
theorem dX4_draw_6 : decode cX4_draw 6 = .ok (.istore_n 3, 1) := by decide +kernel
theorem dX4_draw_7 : decode cX4_draw 7 = .ok (.iload_n 3, 1) := by decide +kernel
theorem dX4_draw_8 : decode cX4_draw 8 = .ok (.aload_n 1, 1) := by decide +kernel
theorem dX4_draw_9 : decode cX4_draw 9 = .ok (.getfield 19, 3) := by decide +kernel
theorem dX4_draw_12 : decode cX4_draw 12 = .ok (.if_icmp .ge 20, 3) := by decide +kernel
theorem dX4_draw_15 : decode cX4_draw 15 = .ok (.aload_n 0, 1) := by decide +kernel
theorem dX4_draw_16 : decode cX4_draw 16 = .ok (.getfield 9, 3) := by decide +kernel
theorem dX4_draw_19 : decode cX4_draw 19 = .ok (.iload_n 3, 1) := by decide +kernel
theorem dX4_draw_20 : decode cX4_draw 20 = .ok (.aload_n 2, 1) := by decide +kernel
theorem dX4_draw_21 : decode cX4_draw 21 = .ok (.iload_n 3, 1) := by decide +kernel
theorem dX4_draw_22 : decode cX4_draw 22 = .ok (.invokevirtual 23, 3) := by decide +kernel
theorem dX4_draw_25 : decode cX4_draw 25 = .ok (.iastore, 1) := by decide +kernel
theorem dX4_draw_26 : decode cX4_draw 26 = .ok (.iinc 3 1, 3) := by decide +kernel
theorem dX4_draw_29 : decode cX4_draw 29 = .ok (.goto (-22), 3) := by decide +kernel
theorem dX4_draw_32 : decode cX4_draw 32 = .ok (.return_, 1) := by decide +kernel
set_option maxRecDepth 20000 in
theorem ggX4_leadsOut_X5_has : GoodIn wsX4_leadsOut wsX5_has := goodIn_r _ [8] (by decide +kernel) (by decide +kernel)
set_option maxRecDepth 20000 in
theorem gX4_leadsOut_X5_has : GoodIn wsX4_leadsOut (va_wsS RX4 32 yX5_has wsX5_has) := goodIn_app (goodIn_of _ (by decide +kernel)) ggX4_leadsOut_X5_has
theorem dX4_leadsOut_0 : decode cX4_leadsOut 0 = .ok (.iload_n 2, 1) := by decide +kernel
theorem dX4_leadsOut_1 : decode cX4_leadsOut 1 = .ok (.aload_n 0, 1) := by decide +kernel
theorem dX4_leadsOut_2 : decode cX4_leadsOut 2 = .ok (.getfield 29, 3) := by decide +kernel
theorem dX4_leadsOut_5 : decode cX4_leadsOut 5 = .ok (.iload_n 1, 1) := by decide +kernel
theorem dX4_leadsOut_6 : decode cX4_leadsOut 6 = .ok (.iaload, 1) := by decide +kernel
theorem dX4_leadsOut_7 : decode cX4_leadsOut 7 = .ok (.invokestatic 32, 3) := by decide +kernel
theorem dX4_leadsOut_10 : decode cX4_leadsOut 10 = .ok (.iload_n 2, 1) := by decide +kernel
theorem dX4_leadsOut_11 : decode cX4_leadsOut 11 = .ok (.aload_n 0, 1) := by decide +kernel
theorem dX4_leadsOut_12 : decode cX4_leadsOut 12 = .ok (.getfield 38, 3) := by decide +kernel
theorem dX4_leadsOut_15 : decode cX4_leadsOut 15 = .ok (.iload_n 1, 1) := by decide +kernel
theorem dX4_leadsOut_16 : decode cX4_leadsOut 16 = .ok (.iaload, 1) := by decide +kernel
theorem dX4_leadsOut_17 : decode cX4_leadsOut 17 = .ok (.invokestatic 32, 3) := by decide +kernel
theorem dX4_leadsOut_20 : decode cX4_leadsOut 20 = .ok (.if_icmp .eq 7, 3) := by decide +kernel
theorem dX4_leadsOut_23 : decode cX4_leadsOut 23 = .ok (.iconst 1, 1) := by decide +kernel
theorem dX4_leadsOut_24 : decode cX4_leadsOut 24 = .ok (.goto 4, 3) := by decide +kernel
theorem dX4_leadsOut_27 : decode cX4_leadsOut 27 = .ok (.iconst 0, 1) := by decide +kernel
theorem dX4_leadsOut_28 : decode cX4_leadsOut 28 = .ok (.ireturn, 1) := by decide +kernel
theorem dX5_has_0 : decode cX5_has 0 = .ok (.iload_n 0, 1) := by decide +kernel
theorem dX5_has_1 : decode cX5_has 1 = .ok (.iload_n 1, 1) := by decide +kernel
theorem dX5_has_2 : decode cX5_has 2 = .ok (.ishr, 1) := by decide +kernel
theorem dX5_has_3 : decode cX5_has 3 = .ok (.iconst 1, 1) := by decide +kernel
theorem dX5_has_4 : decode cX5_has 4 = .ok (.iand, 1) := by decide +kernel
theorem dX5_has_5 : decode cX5_has 5 = .ok (.iconst 1, 1) := by decide +kernel
theorem dX5_has_6 : decode cX5_has 6 = .ok (.if_icmp .ne 7, 3) := by decide +kernel
theorem dX5_has_9 : decode cX5_has 9 = .ok (.iconst 1, 1) := by decide +kernel
theorem dX5_has_10 : decode cX5_has 10 = .ok (.goto 4, 3) := by decide +kernel
theorem dX5_has_13 : decode cX5_has 13 = .ok (.iconst 0, 1) := by decide +kernel
theorem dX5_has_14 : decode cX5_has 14 = .ok (.ireturn, 1) := by decide +kernel
theorem dX5_without_0 : decode cX5_without 0 = .ok (.iload_n 0, 1) := by decide +kernel
theorem dX5_without_1 : decode cX5_without 1 = .ok (.iconst 1, 1) := by decide +kernel
theorem dX5_without_2 : decode cX5_without 2 = .ok (.iload_n 1, 1) := by decide +kernel
theorem dX5_without_3 : decode cX5_without 3 = .ok (.ishl, 1) := by decide +kernel
theorem dX5_without_4 : decode cX5_without 4 = .ok (.iconst (-1), 1) := by decide +kernel
theorem dX5_without_5 : decode cX5_without 5 = .ok (.ixor, 1) := by decide +kernel
theorem dX5_without_6 : decode cX5_without 6 = .ok (.iand, 1) := by decide +kernel
theorem dX5_without_7 : decode cX5_without 7 = .ok (.ireturn, 1) := by decide +kernel
theorem dX5_allOf_0 : decode cX5_allOf 0 = .ok (.iconst 1, 1) := by decide +kernel
theorem dX5_allOf_1 : decode cX5_allOf 1 = .ok (.iload_n 0, 1) := by decide +kernel
theorem dX5_allOf_2 : decode cX5_allOf 2 = .ok (.ishl, 1) := by decide +kernel
theorem dX5_allOf_3 : decode cX5_allOf 3 = .ok (.iconst 1, 1) := by decide +kernel
theorem dX5_allOf_4 : decode cX5_allOf 4 = .ok (.isub, 1) := by decide +kernel
theorem dX5_allOf_5 : decode cX5_allOf 5 = .ok (.ireturn, 1) := by decide +kernel
