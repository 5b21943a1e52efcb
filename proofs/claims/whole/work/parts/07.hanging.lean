set_option maxRecDepth 20000 in
theorem ggX0_prepare_X1_allWorn : GoodIn wsX0_prepare wsX1_allWorn := goodIn_r _ [10, 11, 12, 13, 14, 9, 15, 16, 17, 18, 19, 20, 48, 49, 50, 51, 52, 53, 54, 55, 56, 57] (by decide +kernel) (by decide +kernel)
set_option maxRecDepth 20000 in
theorem gX0_prepare_X1_allWorn : GoodIn wsX0_prepare (wsV RX0 44 RX1 yX1_allWorn wsX1_allWorn) := goodIn_app (goodIn_of _ (by decide +kernel)) ggX0_prepare_X1_allWorn
set_option maxRecDepth 20000 in
theorem ggX0_prepare_X1_loadOfSet : GoodIn wsX0_prepare wsX1_loadOfSet := goodIn_r _ [24, 11, 25, 26, 27, 28, 29, 30, 31, 32, 33, 34, 9, 35, 36, 37, 38, 48, 49, 50, 51, 52, 53, 54, 55, 56, 57] (by decide +kernel) (by decide +kernel)
set_option maxRecDepth 20000 in
theorem gX0_prepare_X1_loadOfSet : GoodIn wsX0_prepare (wsV RX0 56 RX1 yX1_loadOfSet wsX1_loadOfSet) := goodIn_app (goodIn_of _ (by decide +kernel)) ggX0_prepare_X1_loadOfSet
theorem dX0_prepare_0 : decode cX0_prepare 0 = .ok (.aload_n 0, 1) := by decide +kernel
theorem dX0_prepare_1 : decode cX0_prepare 1 = .ok (.aload_n 0, 1) := by decide +kernel
theorem dX0_prepare_2 : decode cX0_prepare 2 = .ok (.getfield 40, 3) := by decide +kernel
theorem dX0_prepare_5 : decode cX0_prepare 5 = .ok (.invokevirtual 44, 3) := by decide +kernel
theorem dX0_prepare_8 : decode cX0_prepare 8 = .ok (.putfield 16, 3) := by decide +kernel
theorem dX0_prepare_11 : decode cX0_prepare 11 = .ok (.iconst 0, 1) := by decide +kernel
theorem dX0_prepare_12 : decode cX0_prepare 12 = .ok (.istore_n 1, 1) := by decide +kernel
theorem dX0_prepare_13 : decode cX0_prepare 13 = .ok (.iload_n 1, 1) := by decide +kernel
theorem dX0_prepare_14 : decode cX0_prepare 14 = .ok (.aload_n 0, 1) := by decide +kernel
theorem dX0_prepare_15 : decode cX0_prepare 15 = .ok (.getfield 40, 3) := by decide +kernel
theorem dX0_prepare_18 : decode cX0_prepare 18 = .ok (.getfield 50, 3) := by decide +kernel
theorem dX0_prepare_21 : decode cX0_prepare 21 = .ok (.if_icmp .ge 60, 3) := by decide +kernel
theorem dX0_prepare_24 : decode cX0_prepare 24 = .ok (.iconst 0, 1) := by decide +kernel
theorem dX0_prepare_25 : decode cX0_prepare 25 = .ok (.istore_n 2, 1) := by decide +kernel
theorem dX0_prepare_26 : decode cX0_prepare 26 = .ok (.iload_n 2, 1) := by decide +kernel
theorem dX0_prepare_27 : decode cX0_prepare 27 = .ok (.aload_n 0, 1) := by decide +kernel
theorem dX0_prepare_28 : decode cX0_prepare 28 = .ok (.getfield 16, 3) := by decide +kernel
theorem dX0_prepare_31 : decode cX0_prepare 31 = .ok (.if_icmp .gt 44, 3) := by decide +kernel
theorem dX0_prepare_34 : decode cX0_prepare 34 = .ok (.iload_n 2, 1) := by decide +kernel
theorem dX0_prepare_35 : decode cX0_prepare 35 = .ok (.aload_n 0, 1) := by decide +kernel
theorem dX0_prepare_36 : decode cX0_prepare 36 = .ok (.getfield 16, 3) := by decide +kernel
theorem dX0_prepare_39 : decode cX0_prepare 39 = .ok (.iconst (-1), 1) := by decide +kernel
theorem dX0_prepare_40 : decode cX0_prepare 40 = .ok (.ixor, 1) := by decide +kernel
theorem dX0_prepare_41 : decode cX0_prepare 41 = .ok (.iand, 1) := by decide +kernel
theorem dX0_prepare_42 : decode cX0_prepare 42 = .ok (.ifCond .ne 27, 3) := by decide +kernel
theorem dX0_prepare_45 : decode cX0_prepare 45 = .ok (.aload_n 0, 1) := by decide +kernel
theorem dX0_prepare_46 : decode cX0_prepare 46 = .ok (.getfield 11, 3) := by decide +kernel
theorem dX0_prepare_49 : decode cX0_prepare 49 = .ok (.iload_n 1, 1) := by decide +kernel
theorem dX0_prepare_50 : decode cX0_prepare 50 = .ok (.aaload, 1) := by decide +kernel
theorem dX0_prepare_51 : decode cX0_prepare 51 = .ok (.iload_n 2, 1) := by decide +kernel
theorem dX0_prepare_52 : decode cX0_prepare 52 = .ok (.aload_n 0, 1) := by decide +kernel
theorem dX0_prepare_53 : decode cX0_prepare 53 = .ok (.getfield 40, 3) := by decide +kernel
theorem dX0_prepare_56 : decode cX0_prepare 56 = .ok (.iload_n 1, 1) := by decide +kernel
theorem dX0_prepare_57 : decode cX0_prepare 57 = .ok (.iload_n 2, 1) := by decide +kernel
theorem dX0_prepare_58 : decode cX0_prepare 58 = .ok (.aload_n 0, 1) := by decide +kernel
theorem dX0_prepare_59 : decode cX0_prepare 59 = .ok (.getfield 40, 3) := by decide +kernel
theorem dX0_prepare_62 : decode cX0_prepare 62 = .ok (.getfield 53, 3) := by decide +kernel
theorem dX0_prepare_65 : decode cX0_prepare 65 = .ok (.invokevirtual 56, 3) := by decide +kernel
theorem dX0_prepare_68 : decode cX0_prepare 68 = .ok (.iastore, 1) := by decide +kernel
theorem dX0_prepare_69 : decode cX0_prepare 69 = .ok (.iinc 2 1, 3) := by decide +kernel
theorem dX0_prepare_72 : decode cX0_prepare 72 = .ok (.goto (-46), 3) := by decide +kernel
theorem dX0_prepare_75 : decode cX0_prepare 75 = .ok (.iinc 1 1, 3) := by decide +kernel
theorem dX0_prepare_78 : decode cX0_prepare 78 = .ok (.goto (-65), 3) := by decide +kernel
theorem dX0_prepare_81 : decode cX0_prepare 81 = .ok (.return_, 1) := by decide +kernel
set_option maxRecDepth 20000 in
theorem ggX0_findEven_X0_find : GoodIn wsX0_findEven wsX0_find := goodIn_r _ [6, 7, 8, 9, 10, 11, 12, 13, 5, 14, 15, 16, 17, 18, 19, 20, 21, 22, 23, 24, 25, 26, 27, 28, 29, 30, 31, 32, 33, 34, 35, 36, 37, 38, 39, 40, 41, 42, 43, 44, 45, 46, 47, 48, 49, 50, 51, 52, 53, 54, 55, 56, 57, 58, 59, 60, 61, 1, 62, 63, 64, 65, 66, 67, 68, 69, 70, 71, 72, 73, 74, 75, 76, 77, 78, 79, 80, 81, 82, 83, 84, 85, 86, 87, 88, 89, 90, 91, 92, 93, 94, 95, 96, 97, 98] (by decide +kernel) (by decide +kernel)
set_option maxRecDepth 20000 in
theorem gX0_findEven_X0_find : GoodIn wsX0_findEven (wsV RX0 60 RX0 yX0_find wsX0_find) := goodIn_app (goodIn_of _ (by decide +kernel)) ggX0_findEven_X0_find
theorem dX0_findEven_0 : decode cX0_findEven 0 = .ok (.aload_n 0, 1) := by decide +kernel
theorem dX0_findEven_1 : decode cX0_findEven 1 = .ok (.iconst 0, 1) := by decide +kernel
theorem dX0_findEven_2 : decode cX0_findEven 2 = .ok (.putfield 33, 3) := by decide +kernel
theorem dX0_findEven_5 : decode cX0_findEven 5 = .ok (.aload_n 0, 1) := by decide +kernel
theorem dX0_findEven_6 : decode cX0_findEven 6 = .ok (.invokevirtual 60, 3) := by decide +kernel
theorem dX0_findEven_9 : decode cX0_findEven 9 = .ok (.return_, 1) := by decide +kernel
set_option maxRecDepth 20000 in
theorem ggX0_findFew_X0_find : GoodIn wsX0_findFew wsX0_find := goodIn_r _ [6, 7, 8, 9, 10, 11, 12, 13, 5, 14, 15, 16, 17, 18, 19, 20, 21, 22, 23, 24, 25, 26, 27, 28, 29, 30, 31, 32, 33, 34, 35, 36, 37, 38, 39, 40, 41, 42, 43, 44, 45, 46, 47, 48, 49, 50, 51, 52, 53, 54, 55, 56, 57, 58, 59, 60, 61, 1, 62, 63, 64, 65, 66, 67, 68, 69, 70, 71, 72, 73, 74, 75, 76, 77, 78, 79, 80, 81, 82, 83, 84, 85, 86, 87, 88, 89, 90, 91, 92, 93, 94, 95, 96, 97, 98] (by decide +kernel) (by decide +kernel)
set_option maxRecDepth 20000 in
theorem gX0_findFew_X0_find : GoodIn wsX0_findFew (wsV RX0 60 RX0 yX0_find wsX0_find) := goodIn_app (goodIn_of _ (by decide +kernel)) ggX0_findFew_X0_find
theorem dX0_findFew_0 : decode cX0_findFew 0 = .ok (.aload_n 0, 1) := by decide +kernel
theorem dX0_findFew_1 : decode cX0_findFew 1 = .ok (.iconst 1, 1) := by decide +kernel
theorem dX0_findFew_2 : decode cX0_findFew 2 = .ok (.putfield 33, 3) := by decide +kernel
theorem dX0_findFew_5 : decode cX0_findFew 5 = .ok (.aload_n 0, 1) := by decide +kernel
theorem dX0_findFew_6 : decode cX0_findFew 6 = .ok (.invokevirtual 60, 3) := by decide +kernel
theorem dX0_findFew_9 : decode cX0_findFew 9 = .ok (.return_, 1) := by decide +kernel
set_option maxRecDepth 20000 in
theorem ggX0_find_X0_prepare : GoodIn wsX0_find wsX0_prepare := goodIn_r _ [9, 10, 11, 12, 13, 14, 15, 16, 17, 18, 19, 20, 21, 22, 23, 24, 25, 26, 27, 28, 29, 30, 31, 32, 33, 34, 35, 36, 37, 38, 39, 40, 41, 42, 43, 44, 45, 46, 47, 76, 77, 78, 79, 80, 81, 82, 83, 84, 85, 86, 87, 88, 89, 90, 91, 92, 93, 94] (by decide +kernel) (by decide +kernel)
set_option maxRecDepth 20000 in
theorem gX0_find_X0_prepare : GoodIn wsX0_find (wsV RX0 63 RX0 yX0_prepare wsX0_prepare) := goodIn_app (goodIn_of _ (by decide +kernel)) ggX0_find_X0_prepare
set_option maxRecDepth 20000 in
theorem ggX0_find_X0_hangFrom : GoodIn wsX0_find wsX0_hangFrom := goodIn_r _ [51, 4, 2, 52, 53, 54, 55, 56, 11, 10, 12, 1, 57, 48, 49, 50, 8, 58, 59, 60, 61, 62, 63, 64, 65, 66, 13, 67, 68, 69, 70, 71, 72, 73, 74, 75, 76, 77, 78, 79, 80, 81, 82, 83, 84, 85, 86, 87, 88, 89, 90, 91, 92, 93, 94] (by decide +kernel) (by decide +kernel)
set_option maxRecDepth 20000 in
theorem gX0_find_X0_hangFrom : GoodIn wsX0_find (wsV RX0 67 RX0 yX0_hangFrom wsX0_hangFrom) := goodIn_app (goodIn_of _ (by decide +kernel)) ggX0_find_X0_hangFrom
theorem dX0_find_0 : decode cX0_find 0 = .ok (.aload_n 0, 1) := by decide +kernel
theorem dX0_find_1 : decode cX0_find 1 = .ok (.invokevirtual 63, 3) := by decide +kernel
theorem dX0_find_4 : decode cX0_find 4 = .ok (.iconst 0, 1) := by decide +kernel
theorem dX0_find_5 : decode cX0_find 5 = .ok (.istore_n 1, 1) := by decide +kernel
theorem dX0_find_6 : decode cX0_find 6 = .ok (.iload_n 1, 1) := by decide +kernel
theorem dX0_find_7 : decode cX0_find 7 = .ok (.iconst 5, 1) := by decide +kernel
theorem dX0_find_8 : decode cX0_find 8 = .ok (.if_icmp .ge 16, 3) := by decide +kernel
theorem dX0_find_11 : decode cX0_find 11 = .ok (.aload_n 0, 1) := by decide +kernel
theorem dX0_find_12 : decode cX0_find 12 = .ok (.getfield 20, 3) := by decide +kernel
theorem dX0_find_15 : decode cX0_find 15 = .ok (.iload_n 1, 1) := by decide +kernel
theorem dX0_find_16 : decode cX0_find 16 = .ok (.iconst 0, 1) := by decide +kernel
theorem dX0_find_17 : decode cX0_find 17 = .ok (.iastore, 1) := by decide +kernel
theorem dX0_find_18 : decode cX0_find 18 = .ok (.iinc 1 1, 3) := by decide +kernel
theorem dX0_find_21 : decode cX0_find 21 = .ok (.goto (-15), 3) := by decide +kernel
theorem dX0_find_24 : decode cX0_find 24 = .ok (.iconst 0, 1) := by decide +kernel
theorem dX0_find_25 : decode cX0_find 25 = .ok (.istore_n 1, 1) := by decide +kernel
theorem dX0_find_26 : decode cX0_find 26 = .ok (.iload_n 1, 1) := by decide +kernel
theorem dX0_find_27 : decode cX0_find 27 = .ok (.bipush 6, 2) := by decide +kernel
theorem dX0_find_29 : decode cX0_find 29 = .ok (.if_icmp .ge 17, 3) := by decide +kernel
theorem dX0_find_32 : decode cX0_find 32 = .ok (.aload_n 0, 1) := by decide +kernel
theorem dX0_find_33 : decode cX0_find 33 = .ok (.getfield 24, 3) := by decide +kernel
theorem dX0_find_36 : decode cX0_find 36 = .ok (.iload_n 1, 1) := by decide +kernel
theorem dX0_find_37 : decode cX0_find 37 = .ok (.bipush (-4), 2) := by decide +kernel
theorem dX0_find_39 : decode cX0_find 39 = .ok (.iastore, 1) := by decide +kernel
theorem dX0_find_40 : decode cX0_find 40 = .ok (.iinc 1 1, 3) := by decide +kernel
theorem dX0_find_43 : decode cX0_find 43 = .ok (.goto (-17), 3) := by decide +kernel
theorem dX0_find_46 : decode cX0_find 46 = .ok (.aload_n 0, 1) := by decide +kernel
theorem dX0_find_47 : decode cX0_find 47 = .ok (.ldc 66, 2) := by decide +kernel
theorem dX0_find_49 : decode cX0_find 49 = .ok (.putfield 37, 3) := by decide +kernel
theorem dX0_find_52 : decode cX0_find 52 = .ok (.aload_n 0, 1) := by decide +kernel
theorem dX0_find_53 : decode cX0_find 53 = .ok (.iconst 0, 1) := by decide +kernel
theorem dX0_find_54 : decode cX0_find 54 = .ok (.iconst 0, 1) := by decide +kernel
theorem dX0_find_55 : decode cX0_find 55 = .ok (.invokevirtual 67, 3) := by decide +kernel
theorem dX0_find_58 : decode cX0_find 58 = .ok (.return_, 1) := by decide +kernel
set_option maxRecDepth 20000 in
theorem ggX0_hangFrom_X0_hangFrom : GoodIn wsX0_hangFrom wsX0_hangFrom := goodIn_r _ [0, 1, 2, 3, 4, 5, 6, 7, 8, 9, 10, 11, 12, 13, 14, 15, 16, 17, 18, 19, 20, 21, 22, 23, 24, 25, 26, 27, 28, 29, 30, 31, 32, 33, 34, 35, 36, 37, 38, 39, 40, 41, 42, 43, 44, 45, 46, 47, 48, 49, 50, 51, 52, 53, 54] (by decide +kernel) (by decide +kernel)
set_option maxRecDepth 20000 in
theorem gX0_hangFrom_X0_hangFrom : GoodIn wsX0_hangFrom (wsV RX0 67 RX0 yX0_hangFrom wsX0_hangFrom) := goodIn_app (goodIn_of _ (by decide +kernel)) ggX0_hangFrom_X0_hangFrom
set_option maxRecDepth 20000 in
theorem ggX0_hangFrom_X0_costOfFew : GoodIn wsX0_hangFrom wsX0_costOfFew := goodIn_r _ [20, 9, 21, 11, 22, 23, 24, 16, 25, 26, 27, 36, 37, 38, 39, 40, 41, 42, 43, 44, 45, 46, 47, 48, 49, 50, 51, 52, 53, 54] (by decide +kernel) (by decide +kernel)
set_option maxRecDepth 20000 in
theorem gX0_hangFrom_X0_costOfFew : GoodIn wsX0_hangFrom (wsV RX0 77 RX0 yX0_costOfFew wsX0_costOfFew) := goodIn_app (goodIn_of _ (by decide +kernel)) ggX0_hangFrom_X0_costOfFew
set_option maxRecDepth 20000 in
theorem ggX0_hangFrom_X0_costOfEven : GoodIn wsX0_hangFrom wsX0_costOfEven := goodIn_r _ [31, 26, 11, 32, 33, 34, 35, 36, 37, 38, 39, 40, 41, 42, 43, 44] (by decide +kernel) (by decide +kernel)
set_option maxRecDepth 20000 in
theorem gX0_hangFrom_X0_costOfEven : GoodIn wsX0_hangFrom (wsV RX0 81 RX0 yX0_costOfEven wsX0_costOfEven) := goodIn_app (goodIn_of _ (by decide +kernel)) ggX0_hangFrom_X0_costOfEven
theorem dX0_hangFrom_0 : decode cX0_hangFrom 0 = .ok (.iload_n 2, 1) := by decide +kernel
theorem dX0_hangFrom_1 : decode cX0_hangFrom 1 = .ok (.aload_n 0, 1) := by decide +kernel
theorem dX0_hangFrom_2 : decode cX0_hangFrom 2 = .ok (.getfield 37, 3) := by decide +kernel
theorem dX0_hangFrom_5 : decode cX0_hangFrom 5 = .ok (.if_icmp .lt 4, 3) := by decide +kernel
theorem dX0_hangFrom_8 : decode cX0_hangFrom 8 = .ok (.return_, 1) := by decide +kernel
theorem dX0_hangFrom_9 : decode cX0_hangFrom 9 = .ok (.iload_n 1, 1) := by decide +kernel
theorem dX0_hangFrom_10 : decode cX0_hangFrom 10 = .ok (.bipush 6, 2) := by decide +kernel
theorem dX0_hangFrom_12 : decode cX0_hangFrom 12 = .ok (.if_icmp .lt 24, 3) := by decide +kernel
theorem dX0_hangFrom_15 : decode cX0_hangFrom 15 = .ok (.aload_n 0, 1) := by decide +kernel
theorem dX0_hangFrom_16 : decode cX0_hangFrom 16 = .ok (.iload_n 2, 1) := by decide +kernel
theorem dX0_hangFrom_17 : decode cX0_hangFrom 17 = .ok (.putfield 37, 3) := by decide +kernel
theorem dX0_hangFrom_20 : decode cX0_hangFrom 20 = .ok (.aload_n 0, 1) := by decide +kernel
theorem dX0_hangFrom_21 : decode cX0_hangFrom 21 = .ok (.getfield 24, 3) := by decide +kernel
theorem dX0_hangFrom_24 : decode cX0_hangFrom 24 = .ok (.iconst 0, 1) := by decide +kernel
theorem dX0_hangFrom_25 : decode cX0_hangFrom 25 = .ok (.aload_n 0, 1) := by decide +kernel
theorem dX0_hangFrom_26 : decode cX0_hangFrom 26 = .ok (.getfield 27, 3) := by decide +kernel
theorem dX0_hangFrom_29 : decode cX0_hangFrom 29 = .ok (.iconst 0, 1) := by decide +kernel
theorem dX0_hangFrom_30 : decode cX0_hangFrom 30 = .ok (.bipush 6, 2) := by decide +kernel
theorem dX0_hangFrom_32 : decode cX0_hangFrom 32 = .ok (.invokestatic 71, 3) := by decide +kernel
theorem dX0_hangFrom_35 : decode cX0_hangFrom 35 = .ok (.return_, 1) := by decide +kernel
theorem dX0_hangFrom_36 : decode cX0_hangFrom 36 = .ok (.aload_n 0, 1) := by decide +kernel
theorem dX0_hangFrom_37 : decode cX0_hangFrom 37 = .ok (.getfield 16, 3) := by decide +kernel
theorem dX0_hangFrom_40 : decode cX0_hangFrom 40 = .ok (.iload_n 1, 1) := by decide +kernel
theorem dX0_hangFrom_41 : decode cX0_hangFrom 41 = .ok (.ishr, 1) := by decide +kernel
theorem dX0_hangFrom_42 : decode cX0_hangFrom 42 = .ok (.iconst 1, 1) := by decide +kernel
theorem dX0_hangFrom_43 : decode cX0_hangFrom 43 = .ok (.iand, 1) := by decide +kernel
theorem dX0_hangFrom_44 : decode cX0_hangFrom 44 = .ok (.ifCond .ne 12, 3) := by decide +kernel
theorem dX0_hangFrom_47 : decode cX0_hangFrom 47 = .ok (.aload_n 0, 1) := by decide +kernel
theorem dX0_hangFrom_48 : decode cX0_hangFrom 48 = .ok (.iload_n 1, 1) := by decide +kernel
theorem dX0_hangFrom_49 : decode cX0_hangFrom 49 = .ok (.iconst 1, 1) := by decide +kernel
theorem dX0_hangFrom_50 : decode cX0_hangFrom 50 = .ok (.iadd, 1) := by decide +kernel
theorem dX0_hangFrom_51 : decode cX0_hangFrom 51 = .ok (.iload_n 2, 1) := by decide +kernel
theorem dX0_hangFrom_52 : decode cX0_hangFrom 52 = .ok (.invokevirtual 67, 3) := by decide +kernel
theorem dX0_hangFrom_55 : decode cX0_hangFrom 55 = .ok (.return_, 1) := by decide +kernel
theorem dX0_hangFrom_56 : decode cX0_hangFrom 56 = .ok (.iconst 0, 1) := by decide +kernel
theorem dX0_hangFrom_57 : decode cX0_hangFrom 57 = .ok (.istore_n 3, 1) := by decide +kernel
theorem dX0_hangFrom_58 : decode cX0_hangFrom 58 = .ok (.iload_n 3, 1) := by decide +kernel
theorem dX0_hangFrom_59 : decode cX0_hangFrom 59 = .ok (.aload_n 0, 1) := by decide +kernel
theorem dX0_hangFrom_60 : decode cX0_hangFrom 60 = .ok (.getfield 40, 3) := by decide +kernel
theorem dX0_hangFrom_63 : decode cX0_hangFrom 63 = .ok (.getfield 50, 3) := by decide +kernel
theorem dX0_hangFrom_66 : decode cX0_hangFrom 66 = .ok (.if_icmp .ge 76, 3) := by decide +kernel
theorem dX0_hangFrom_69 : decode cX0_hangFrom 69 = .ok (.aload_n 0, 1) := by decide +kernel
theorem dX0_hangFrom_70 : decode cX0_hangFrom 70 = .ok (.getfield 20, 3) := by decide +kernel
theorem dX0_hangFrom_73 : decode cX0_hangFrom 73 = .ok (.iload_n 3, 1) := by decide +kernel
theorem dX0_hangFrom_74 : decode cX0_hangFrom 74 = .ok (.iaload, 1) := by decide +kernel
theorem dX0_hangFrom_75 : decode cX0_hangFrom 75 = .ok (.istore 4, 2) := by decide +kernel
theorem dX0_hangFrom_77 : decode cX0_hangFrom 77 = .ok (.aload_n 0, 1) := by decide +kernel
theorem dX0_hangFrom_78 : decode cX0_hangFrom 78 = .ok (.getfield 20, 3) := by decide +kernel
theorem dX0_hangFrom_81 : decode cX0_hangFrom 81 = .ok (.iload_n 3, 1) := by decide +kernel
theorem dX0_hangFrom_82 : decode cX0_hangFrom 82 = .ok (.iload 4, 2) := by decide +kernel
theorem dX0_hangFrom_84 : decode cX0_hangFrom 84 = .ok (.iconst 1, 1) := by decide +kernel
theorem dX0_hangFrom_85 : decode cX0_hangFrom 85 = .ok (.iload_n 1, 1) := by decide +kernel
theorem dX0_hangFrom_86 : decode cX0_hangFrom 86 = .ok (.ishl, 1) := by decide +kernel
theorem dX0_hangFrom_87 : decode cX0_hangFrom 87 = .ok (.ior, 1) := by decide +kernel
theorem dX0_hangFrom_88 : decode cX0_hangFrom 88 = .ok (.iastore, 1) := by decide +kernel
theorem dX0_hangFrom_89 : decode cX0_hangFrom 89 = .ok (.aload_n 0, 1) := by decide +kernel
theorem dX0_hangFrom_90 : decode cX0_hangFrom 90 = .ok (.getfield 24, 3) := by decide +kernel
theorem dX0_hangFrom_93 : decode cX0_hangFrom 93 = .ok (.iload_n 1, 1) := by decide +kernel
theorem dX0_hangFrom_94 : decode cX0_hangFrom 94 = .ok (.iload_n 3, 1) := by decide +kernel
theorem dX0_hangFrom_95 : decode cX0_hangFrom 95 = .ok (.iastore, 1) := by decide +kernel
theorem dX0_hangFrom_96 : decode cX0_hangFrom 96 = .ok (.aload_n 0, 1) := by decide +kernel
theorem dX0_hangFrom_97 : decode cX0_hangFrom 97 = .ok (.iload_n 1, 1) := by decide +kernel
theorem dX0_hangFrom_98 : decode cX0_hangFrom 98 = .ok (.iconst 1, 1) := by decide +kernel
theorem dX0_hangFrom_99 : decode cX0_hangFrom 99 = .ok (.iadd, 1) := by decide +kernel
theorem dX0_hangFrom_100 : decode cX0_hangFrom 100 = .ok (.aload_n 0, 1) := by decide +kernel
theorem dX0_hangFrom_101 : decode cX0_hangFrom 101 = .ok (.getfield 33, 3) := by decide +kernel
theorem dX0_hangFrom_104 : decode cX0_hangFrom 104 = .ok (.ifCond .eq 15, 3) := by decide +kernel
theorem dX0_hangFrom_107 : decode cX0_hangFrom 107 = .ok (.aload_n 0, 1) := by decide +kernel
theorem dX0_hangFrom_108 : decode cX0_hangFrom 108 = .ok (.iload_n 2, 1) := by decide +kernel
theorem dX0_hangFrom_109 : decode cX0_hangFrom 109 = .ok (.iload_n 3, 1) := by decide +kernel
theorem dX0_hangFrom_110 : decode cX0_hangFrom 110 = .ok (.iload 4, 2) := by decide +kernel
theorem dX0_hangFrom_112 : decode cX0_hangFrom 112 = .ok (.iload_n 1, 1) := by decide +kernel
theorem dX0_hangFrom_113 : decode cX0_hangFrom 113 = .ok (.invokevirtual 77, 3) := by decide +kernel
theorem dX0_hangFrom_116 : decode cX0_hangFrom 116 = .ok (.goto 9, 3) := by decide +kernel
theorem dX0_hangFrom_119 : decode cX0_hangFrom 119 = .ok (.aload_n 0, 1) := by decide +kernel
theorem dX0_hangFrom_120 : decode cX0_hangFrom 120 = .ok (.iload_n 2, 1) := by decide +kernel
theorem dX0_hangFrom_121 : decode cX0_hangFrom 121 = .ok (.iload_n 3, 1) := by decide +kernel
theorem dX0_hangFrom_122 : decode cX0_hangFrom 122 = .ok (.invokevirtual 81, 3) := by decide +kernel
theorem dX0_hangFrom_125 : decode cX0_hangFrom 125 = .ok (.invokevirtual 67, 3) := by decide +kernel
theorem dX0_hangFrom_128 : decode cX0_hangFrom 128 = .ok (.aload_n 0, 1) := by decide +kernel
theorem dX0_hangFrom_129 : decode cX0_hangFrom 129 = .ok (.getfield 20, 3) := by decide +kernel
theorem dX0_hangFrom_132 : decode cX0_hangFrom 132 = .ok (.iload_n 3, 1) := by decide +kernel
theorem dX0_hangFrom_133 : decode cX0_hangFrom 133 = .ok (.iload 4, 2) := by decide +kernel
theorem dX0_hangFrom_135 : decode cX0_hangFrom 135 = .ok (.iastore, 1) := by decide +kernel
theorem dX0_hangFrom_136 : decode cX0_hangFrom 136 = .ok (.iinc 3 1, 3) := by decide +kernel
theorem dX0_hangFrom_139 : decode cX0_hangFrom 139 = .ok (.goto (-81), 3) := by decide +kernel
theorem dX0_hangFrom_142 : decode cX0_hangFrom 142 = .ok (.return_, 1) := by decide +kernel
theorem dX0_costOfEven_0 : decode cX0_costOfEven 0 = .ok (.iload_n 1, 1) := by decide +kernel
theorem dX0_costOfEven_1 : decode cX0_costOfEven 1 = .ok (.aload_n 0, 1) := by decide +kernel
theorem dX0_costOfEven_2 : decode cX0_costOfEven 2 = .ok (.getfield 11, 3) := by decide +kernel
theorem dX0_costOfEven_5 : decode cX0_costOfEven 5 = .ok (.iload_n 2, 1) := by decide +kernel
theorem dX0_costOfEven_6 : decode cX0_costOfEven 6 = .ok (.aaload, 1) := by decide +kernel
theorem dX0_costOfEven_7 : decode cX0_costOfEven 7 = .ok (.aload_n 0, 1) := by decide +kernel
theorem dX0_costOfEven_8 : decode cX0_costOfEven 8 = .ok (.getfield 20, 3) := by decide +kernel
theorem dX0_costOfEven_11 : decode cX0_costOfEven 11 = .ok (.iload_n 2, 1) := by decide +kernel
theorem dX0_costOfEven_12 : decode cX0_costOfEven 12 = .ok (.iaload, 1) := by decide +kernel
theorem dX0_costOfEven_13 : decode cX0_costOfEven 13 = .ok (.iaload, 1) := by decide +kernel
theorem dX0_costOfEven_14 : decode cX0_costOfEven 14 = .ok (.invokestatic 85, 3) := by decide +kernel
theorem dX0_costOfEven_17 : decode cX0_costOfEven 17 = .ok (.ireturn, 1) := by decide +kernel
set_option maxRecDepth 20000 in
theorem ggX0_costOfFew_X0_bends : GoodIn wsX0_costOfFew wsX0_bends := goodIn_r _ [8, 9, 1, 10, 11, 12, 13, 14, 15, 16, 17, 18, 19, 20, 21, 22, 23, 24, 25, 26, 27, 28, 29] (by decide +kernel) (by decide +kernel)
set_option maxRecDepth 20000 in
theorem gX0_costOfFew_X0_bends : GoodIn wsX0_costOfFew (wsV RX0 93 RX0 yX0_bends wsX0_bends) := goodIn_app (goodIn_of _ (by decide +kernel)) ggX0_costOfFew_X0_bends
theorem dX0_costOfFew_0 : decode cX0_costOfFew 0 = .ok (.aload_n 0, 1) := by decide +kernel
theorem dX0_costOfFew_1 : decode cX0_costOfFew 1 = .ok (.getfield 40, 3) := by decide +kernel
theorem dX0_costOfFew_4 : decode cX0_costOfFew 4 = .ok (.getfield 90, 3) := by decide +kernel
theorem dX0_costOfFew_7 : decode cX0_costOfFew 7 = .ok (.iload 4, 2) := by decide +kernel
theorem dX0_costOfFew_9 : decode cX0_costOfFew 9 = .ok (.iaload, 1) := by decide +kernel
theorem dX0_costOfFew_10 : decode cX0_costOfFew 10 = .ok (.iload_n 2, 1) := by decide +kernel
theorem dX0_costOfFew_11 : decode cX0_costOfFew 11 = .ok (.if_icmp .ne 7, 3) := by decide +kernel
theorem dX0_costOfFew_14 : decode cX0_costOfFew 14 = .ok (.iconst 0, 1) := by decide +kernel
theorem dX0_costOfFew_15 : decode cX0_costOfFew 15 = .ok (.goto 4, 3) := by decide +kernel
theorem dX0_costOfFew_18 : decode cX0_costOfFew 18 = .ok (.iconst 1, 1) := by decide +kernel
theorem dX0_costOfFew_19 : decode cX0_costOfFew 19 = .ok (.istore 5, 2) := by decide +kernel
theorem dX0_costOfFew_21 : decode cX0_costOfFew 21 = .ok (.aload_n 0, 1) := by decide +kernel
theorem dX0_costOfFew_22 : decode cX0_costOfFew 22 = .ok (.iload_n 2, 1) := by decide +kernel
theorem dX0_costOfFew_23 : decode cX0_costOfFew 23 = .ok (.iload_n 3, 1) := by decide +kernel
theorem dX0_costOfFew_24 : decode cX0_costOfFew 24 = .ok (.invokevirtual 93, 3) := by decide +kernel
theorem dX0_costOfFew_27 : decode cX0_costOfFew 27 = .ok (.ifCond .ne 20, 3) := by decide +kernel
theorem dX0_costOfFew_30 : decode cX0_costOfFew 30 = .ok (.aload_n 0, 1) := by decide +kernel
theorem dX0_costOfFew_31 : decode cX0_costOfFew 31 = .ok (.iload_n 2, 1) := by decide +kernel
theorem dX0_costOfFew_32 : decode cX0_costOfFew 32 = .ok (.aload_n 0, 1) := by decide +kernel
theorem dX0_costOfFew_33 : decode cX0_costOfFew 33 = .ok (.getfield 20, 3) := by decide +kernel
theorem dX0_costOfFew_36 : decode cX0_costOfFew 36 = .ok (.iload_n 2, 1) := by decide +kernel
theorem dX0_costOfFew_37 : decode cX0_costOfFew 37 = .ok (.iaload, 1) := by decide +kernel
theorem dX0_costOfFew_38 : decode cX0_costOfFew 38 = .ok (.invokevirtual 93, 3) := by decide +kernel
theorem dX0_costOfFew_41 : decode cX0_costOfFew 41 = .ok (.ifCond .eq 6, 3) := by decide +kernel
theorem dX0_costOfFew_44 : decode cX0_costOfFew 44 = .ok (.iinc 5 16, 3) := by decide +kernel
theorem dX0_costOfFew_47 : decode cX0_costOfFew 47 = .ok (.iload_n 1, 1) := by decide +kernel
theorem dX0_costOfFew_48 : decode cX0_costOfFew 48 = .ok (.iload 5, 2) := by decide +kernel
theorem dX0_costOfFew_50 : decode cX0_costOfFew 50 = .ok (.iadd, 1) := by decide +kernel
theorem dX0_costOfFew_51 : decode cX0_costOfFew 51 = .ok (.ireturn, 1) := by decide +kernel
theorem dX0_bends_0 : decode cX0_bends 0 = .ok (.aload_n 0, 1) := by decide +kernel
theorem dX0_bends_1 : decode cX0_bends 1 = .ok (.getfield 11, 3) := by decide +kernel
theorem dX0_bends_4 : decode cX0_bends 4 = .ok (.iload_n 1, 1) := by decide +kernel
theorem dX0_bends_5 : decode cX0_bends 5 = .ok (.aaload, 1) := by decide +kernel
theorem dX0_bends_6 : decode cX0_bends 6 = .ok (.iload_n 2, 1) := by decide +kernel
theorem dX0_bends_7 : decode cX0_bends 7 = .ok (.iaload, 1) := by decide +kernel
theorem dX0_bends_8 : decode cX0_bends 8 = .ok (.aload_n 0, 1) := by decide +kernel
theorem dX0_bends_9 : decode cX0_bends 9 = .ok (.getfield 40, 3) := by decide +kernel
theorem dX0_bends_12 : decode cX0_bends 12 = .ok (.getfield 97, 3) := by decide +kernel
theorem dX0_bends_15 : decode cX0_bends 15 = .ok (.iload_n 1, 1) := by decide +kernel
theorem dX0_bends_16 : decode cX0_bends 16 = .ok (.iaload, 1) := by decide +kernel
theorem dX0_bends_17 : decode cX0_bends 17 = .ok (.if_icmp .le 7, 3) := by decide +kernel
theorem dX0_bends_20 : decode cX0_bends 20 = .ok (.iconst 1, 1) := by decide +kernel
theorem dX0_bends_21 : decode cX0_bends 21 = .ok (.goto 4, 3) := by decide +kernel
theorem dX0_bends_24 : decode cX0_bends 24 = .ok (.iconst 0, 1) := by decide +kernel
theorem dX0_bends_25 : decode cX0_bends 25 = .ok (.ireturn, 1) := by decide +kernel
theorem dX0_wouldWear_0 : decode cX0_wouldWear 0 = .ok (.iload_n 1, 1) := by decide +kernel
theorem dX0_wouldWear_1 : decode cX0_wouldWear 1 = .ok (.ifCond .lt 18, 3) := by decide +kernel
theorem dX0_wouldWear_4 : decode cX0_wouldWear 4 = .ok (.iload_n 1, 1) := by decide +kernel
theorem dX0_wouldWear_5 : decode cX0_wouldWear 5 = .ok (.bipush 6, 2) := by decide +kernel
theorem dX0_wouldWear_7 : decode cX0_wouldWear 7 = .ok (.if_icmp .ge 12, 3) := by decide +kernel
theorem dX0_wouldWear_10 : decode cX0_wouldWear 10 = .ok (.aload_n 0, 1) := by decide +kernel
theorem dX0_wouldWear_11 : decode cX0_wouldWear 11 = .ok (.getfield 27, 3) := by decide +kernel
theorem dX0_wouldWear_14 : decode cX0_wouldWear 14 = .ok (.iload_n 1, 1) := by decide +kernel
theorem dX0_wouldWear_15 : decode cX0_wouldWear 15 = .ok (.iaload, 1) := by decide +kernel
theorem dX0_wouldWear_16 : decode cX0_wouldWear 16 = .ok (.goto 5, 3) := by decide +kernel
theorem dX0_wouldWear_19 : decode cX0_wouldWear 19 = .ok (.bipush (-4), 2) := by decide +kernel
theorem dX0_wouldWear_21 : decode cX0_wouldWear 21 = .ok (.ireturn, 1) := by decide +kernel
set_option maxRecDepth 20000 in
theorem ggX0_ways_J6_bitCount_0f7a4 : GoodIn wsX0_ways wsJ6_bitCount_0f7a4 := goodIn_r _ [7, 8, 9, 10] (by decide +kernel) (by decide +kernel)
set_option maxRecDepth 20000 in
theorem gX0_ways_J6_bitCount_0f7a4 : GoodIn wsX0_ways (va_wsS RX0 100 yJ6_bitCount_0f7a4 wsJ6_bitCount_0f7a4) := goodIn_app (goodIn_of _ (by decide +kernel)) ggX0_ways_J6_bitCount_0f7a4
set_option maxRecDepth 20000 in
theorem ggX0_ways_X0_power : GoodIn wsX0_ways wsX0_power := goodIn_r _ [14] (by decide +kernel) (by decide +kernel)
set_option maxRecDepth 20000 in
theorem gX0_ways_X0_power : GoodIn wsX0_ways (va_wsS RX0 106 yX0_power wsX0_power) := goodIn_app (goodIn_of _ (by decide +kernel)) ggX0_ways_X0_power
theorem dX0_ways_0 : decode cX0_ways 0 = .ok (.aload_n 0, 1) := by decide +kernel
theorem dX0_ways_1 : decode cX0_ways 1 = .ok (.getfield 40, 3) := by decide +kernel
theorem dX0_ways_4 : decode cX0_ways 4 = .ok (.getfield 50, 3) := by decide +kernel
theorem dX0_ways_7 : decode cX0_ways 7 = .ok (.aload_n 0, 1) := by decide +kernel
theorem dX0_ways_8 : decode cX0_ways 8 = .ok (.getfield 16, 3) := by decide +kernel
theorem dX0_ways_11 : decode cX0_ways 11 = .ok (.invokestatic 100, 3) := by decide +kernel
theorem dX0_ways_14 : decode cX0_ways 14 = .ok (.invokestatic 106, 3) := by decide +kernel
theorem dX0_ways_17 : decode cX0_ways 17 = .ok (.ireturn, 1) := by decide +kernel
set_option maxRecDepth 20000 in
theorem ggX0_waysWithBent_X0_bends : GoodIn wsX0_waysWithBent wsX0_bends := goodIn_r _ [8, 9, 2, 10, 21, 22, 23, 24, 25, 26, 27, 28, 29, 30, 31, 32, 33, 34, 35, 36, 37, 38, 39] (by decide +kernel) (by decide +kernel)
set_option maxRecDepth 20000 in
theorem gX0_waysWithBent_X0_bends : GoodIn wsX0_waysWithBent (wsV RX0 93 RX0 yX0_bends wsX0_bends) := goodIn_app (goodIn_of _ (by decide +kernel)) ggX0_waysWithBent_X0_bends
set_option maxRecDepth 20000 in
theorem ggX0_waysWithBent_J6_bitCount_0f7a4 : GoodIn wsX0_waysWithBent wsJ6_bitCount_0f7a4 := goodIn_r _ [14, 15, 16, 17] (by decide +kernel) (by decide +kernel)
set_option maxRecDepth 20000 in
theorem gX0_waysWithBent_J6_bitCount_0f7a4 : GoodIn wsX0_waysWithBent (va_wsS RX0 100 yJ6_bitCount_0f7a4 wsJ6_bitCount_0f7a4) := goodIn_app (goodIn_of _ (by decide +kernel)) ggX0_waysWithBent_J6_bitCount_0f7a4
set_option maxRecDepth 20000 in
theorem ggX0_waysWithBent_X0_power : GoodIn wsX0_waysWithBent wsX0_power := goodIn_r _ [20] (by decide +kernel) (by decide +kernel)
set_option maxRecDepth 20000 in
theorem gX0_waysWithBent_X0_power : GoodIn wsX0_waysWithBent (va_wsS RX0 106 yX0_power wsX0_power) := goodIn_app (goodIn_of _ (by decide +kernel)) ggX0_waysWithBent_X0_power
theorem dX0_waysWithBent_0 : decode cX0_waysWithBent 0 = .ok (.iconst 0, 1) := by decide +kernel
theorem dX0_waysWithBent_1 : decode cX0_waysWithBent 1 = .ok (.istore_n 2, 1) := by decide +kernel
theorem dX0_waysWithBent_2 : decode cX0_waysWithBent 2 = .ok (.iconst 0, 1) := by decide +kernel
theorem dX0_waysWithBent_3 : decode cX0_waysWithBent 3 = .ok (.istore_n 3, 1) := by decide +kernel
theorem dX0_waysWithBent_4 : decode cX0_waysWithBent 4 = .ok (.iload_n 3, 1) := by decide +kernel
theorem dX0_waysWithBent_5 : decode cX0_waysWithBent 5 = .ok (.aload_n 0, 1) := by decide +kernel
theorem dX0_waysWithBent_6 : decode cX0_waysWithBent 6 = .ok (.getfield 16, 3) := by decide +kernel
theorem dX0_waysWithBent_9 : decode cX0_waysWithBent 9 = .ok (.if_icmp .gt 55, 3) := by decide +kernel
theorem dX0_waysWithBent_12 : decode cX0_waysWithBent 12 = .ok (.iload_n 3, 1) := by decide +kernel
theorem dX0_waysWithBent_13 : decode cX0_waysWithBent 13 = .ok (.aload_n 0, 1) := by decide +kernel
theorem dX0_waysWithBent_14 : decode cX0_waysWithBent 14 = .ok (.getfield 16, 3) := by decide +kernel
theorem dX0_waysWithBent_17 : decode cX0_waysWithBent 17 = .ok (.iconst (-1), 1) := by decide +kernel
theorem dX0_waysWithBent_18 : decode cX0_waysWithBent 18 = .ok (.ixor, 1) := by decide +kernel
theorem dX0_waysWithBent_19 : decode cX0_waysWithBent 19 = .ok (.iand, 1) := by decide +kernel
theorem dX0_waysWithBent_20 : decode cX0_waysWithBent 20 = .ok (.ifCond .ne 38, 3) := by decide +kernel
theorem dX0_waysWithBent_23 : decode cX0_waysWithBent 23 = .ok (.aload_n 0, 1) := by decide +kernel
theorem dX0_waysWithBent_24 : decode cX0_waysWithBent 24 = .ok (.iload_n 1, 1) := by decide +kernel
theorem dX0_waysWithBent_25 : decode cX0_waysWithBent 25 = .ok (.iload_n 3, 1) := by decide +kernel
theorem dX0_waysWithBent_26 : decode cX0_waysWithBent 26 = .ok (.invokevirtual 93, 3) := by decide +kernel
theorem dX0_waysWithBent_29 : decode cX0_waysWithBent 29 = .ok (.ifCond .eq 29, 3) := by decide +kernel
theorem dX0_waysWithBent_32 : decode cX0_waysWithBent 32 = .ok (.iload_n 2, 1) := by decide +kernel
theorem dX0_waysWithBent_33 : decode cX0_waysWithBent 33 = .ok (.aload_n 0, 1) := by decide +kernel
theorem dX0_waysWithBent_34 : decode cX0_waysWithBent 34 = .ok (.getfield 40, 3) := by decide +kernel
theorem dX0_waysWithBent_37 : decode cX0_waysWithBent 37 = .ok (.getfield 50, 3) := by decide +kernel
theorem dX0_waysWithBent_40 : decode cX0_waysWithBent 40 = .ok (.iconst 1, 1) := by decide +kernel
theorem dX0_waysWithBent_41 : decode cX0_waysWithBent 41 = .ok (.isub, 1) := by decide +kernel
theorem dX0_waysWithBent_42 : decode cX0_waysWithBent 42 = .ok (.aload_n 0, 1) := by decide +kernel
theorem dX0_waysWithBent_43 : decode cX0_waysWithBent 43 = .ok (.getfield 16, 3) := by decide +kernel
theorem dX0_waysWithBent_46 : decode cX0_waysWithBent 46 = .ok (.iload_n 3, 1) := by decide +kernel
theorem dX0_waysWithBent_47 : decode cX0_waysWithBent 47 = .ok (.iconst (-1), 1) := by decide +kernel
theorem dX0_waysWithBent_48 : decode cX0_waysWithBent 48 = .ok (.ixor, 1) := by decide +kernel
theorem dX0_waysWithBent_49 : decode cX0_waysWithBent 49 = .ok (.iand, 1) := by decide +kernel
theorem dX0_waysWithBent_50 : decode cX0_waysWithBent 50 = .ok (.invokestatic 100, 3) := by decide +kernel
theorem dX0_waysWithBent_53 : decode cX0_waysWithBent 53 = .ok (.invokestatic 106, 3) := by decide +kernel
theorem dX0_waysWithBent_56 : decode cX0_waysWithBent 56 = .ok (.iadd, 1) := by decide +kernel
theorem dX0_waysWithBent_57 : decode cX0_waysWithBent 57 = .ok (.istore_n 2, 1) := by decide +kernel
theorem dX0_waysWithBent_58 : decode cX0_waysWithBent 58 = .ok (.iinc 3 1, 3) := by decide +kernel
theorem dX0_waysWithBent_61 : decode cX0_waysWithBent 61 = .ok (.goto (-57), 3) := by decide +kernel
theorem dX0_waysWithBent_64 : decode cX0_waysWithBent 64 = .ok (.iload_n 2, 1) := by decide +kernel
theorem dX0_waysWithBent_65 : decode cX0_waysWithBent 65 = .ok (.ireturn, 1) := by decide +kernel
set_option maxRecDepth 20000 in
theorem ggX0_waysWithNobodyBent_X0_waysWith : GoodIn wsX0_waysWithNobodyBent wsX0_waysWith := goodIn_r _ [9, 1, 10, 11, 12, 8, 13, 14, 2, 15, 16, 17, 18, 19, 20, 21, 22, 23, 24, 25, 26, 27, 28, 29, 30, 31, 32, 33, 34] (by decide +kernel) (by decide +kernel)
set_option maxRecDepth 20000 in
theorem gX0_waysWithNobodyBent_X0_waysWith : GoodIn wsX0_waysWithNobodyBent (wsV RX0 109 RX0 yX0_waysWith wsX0_waysWith) := goodIn_app (goodIn_of _ (by decide +kernel)) ggX0_waysWithNobodyBent_X0_waysWith
theorem dX0_waysWithNobodyBent_0 : decode cX0_waysWithNobodyBent 0 = .ok (.iconst 0, 1) := by decide +kernel
theorem dX0_waysWithNobodyBent_1 : decode cX0_waysWithNobodyBent 1 = .ok (.istore_n 1, 1) := by decide +kernel
theorem dX0_waysWithNobodyBent_2 : decode cX0_waysWithNobodyBent 2 = .ok (.iload_n 1, 1) := by decide +kernel
theorem dX0_waysWithNobodyBent_3 : decode cX0_waysWithNobodyBent 3 = .ok (.bipush 64, 2) := by decide +kernel
theorem dX0_waysWithNobodyBent_5 : decode cX0_waysWithNobodyBent 5 = .ok (.if_icmp .ge 24, 3) := by decide +kernel
theorem dX0_waysWithNobodyBent_8 : decode cX0_waysWithNobodyBent 8 = .ok (.aload_n 0, 1) := by decide +kernel
theorem dX0_waysWithNobodyBent_9 : decode cX0_waysWithNobodyBent 9 = .ok (.getfield 30, 3) := by decide +kernel
theorem dX0_waysWithNobodyBent_12 : decode cX0_waysWithNobodyBent 12 = .ok (.iload_n 1, 1) := by decide +kernel
theorem dX0_waysWithNobodyBent_13 : decode cX0_waysWithNobodyBent 13 = .ok (.iload_n 1, 1) := by decide +kernel
theorem dX0_waysWithNobodyBent_14 : decode cX0_waysWithNobodyBent 14 = .ok (.ifCond .ne 7, 3) := by decide +kernel
theorem dX0_waysWithNobodyBent_17 : decode cX0_waysWithNobodyBent 17 = .ok (.iconst 1, 1) := by decide +kernel
theorem dX0_waysWithNobodyBent_18 : decode cX0_waysWithNobodyBent 18 = .ok (.goto 4, 3) := by decide +kernel
theorem dX0_waysWithNobodyBent_21 : decode cX0_waysWithNobodyBent 21 = .ok (.iconst 0, 1) := by decide +kernel
theorem dX0_waysWithNobodyBent_22 : decode cX0_waysWithNobodyBent 22 = .ok (.iastore, 1) := by decide +kernel
theorem dX0_waysWithNobodyBent_23 : decode cX0_waysWithNobodyBent 23 = .ok (.iinc 1 1, 3) := by decide +kernel
theorem dX0_waysWithNobodyBent_26 : decode cX0_waysWithNobodyBent 26 = .ok (.goto (-24), 3) := by decide +kernel
theorem dX0_waysWithNobodyBent_29 : decode cX0_waysWithNobodyBent 29 = .ok (.iconst 0, 1) := by decide +kernel
theorem dX0_waysWithNobodyBent_30 : decode cX0_waysWithNobodyBent 30 = .ok (.istore_n 1, 1) := by decide +kernel
theorem dX0_waysWithNobodyBent_31 : decode cX0_waysWithNobodyBent 31 = .ok (.iload_n 1, 1) := by decide +kernel
theorem dX0_waysWithNobodyBent_32 : decode cX0_waysWithNobodyBent 32 = .ok (.aload_n 0, 1) := by decide +kernel
theorem dX0_waysWithNobodyBent_33 : decode cX0_waysWithNobodyBent 33 = .ok (.getfield 40, 3) := by decide +kernel
theorem dX0_waysWithNobodyBent_36 : decode cX0_waysWithNobodyBent 36 = .ok (.getfield 50, 3) := by decide +kernel
theorem dX0_waysWithNobodyBent_39 : decode cX0_waysWithNobodyBent 39 = .ok (.if_icmp .ge 47, 3) := by decide +kernel
theorem dX0_waysWithNobodyBent_42 : decode cX0_waysWithNobodyBent 42 = .ok (.aload_n 0, 1) := by decide +kernel
theorem dX0_waysWithNobodyBent_43 : decode cX0_waysWithNobodyBent 43 = .ok (.getfield 16, 3) := by decide +kernel
theorem dX0_waysWithNobodyBent_46 : decode cX0_waysWithNobodyBent 46 = .ok (.istore_n 2, 1) := by decide +kernel
theorem dX0_waysWithNobodyBent_47 : decode cX0_waysWithNobodyBent 47 = .ok (.iload_n 2, 1) := by decide +kernel
theorem dX0_waysWithNobodyBent_48 : decode cX0_waysWithNobodyBent 48 = .ok (.ifCond .lt 32, 3) := by decide +kernel
theorem dX0_waysWithNobodyBent_51 : decode cX0_waysWithNobodyBent 51 = .ok (.iload_n 2, 1) := by decide +kernel
theorem dX0_waysWithNobodyBent_52 : decode cX0_waysWithNobodyBent 52 = .ok (.aload_n 0, 1) := by decide +kernel
theorem dX0_waysWithNobodyBent_53 : decode cX0_waysWithNobodyBent 53 = .ok (.getfield 16, 3) := by decide +kernel
theorem dX0_waysWithNobodyBent_56 : decode cX0_waysWithNobodyBent 56 = .ok (.iconst (-1), 1) := by decide +kernel
theorem dX0_waysWithNobodyBent_57 : decode cX0_waysWithNobodyBent 57 = .ok (.ixor, 1) := by decide +kernel
theorem dX0_waysWithNobodyBent_58 : decode cX0_waysWithNobodyBent 58 = .ok (.iand, 1) := by decide +kernel
theorem dX0_waysWithNobodyBent_59 : decode cX0_waysWithNobodyBent 59 = .ok (.ifCond .ne 15, 3) := by decide +kernel
theorem dX0_waysWithNobodyBent_62 : decode cX0_waysWithNobodyBent 62 = .ok (.aload_n 0, 1) := by decide +kernel
theorem dX0_waysWithNobodyBent_63 : decode cX0_waysWithNobodyBent 63 = .ok (.getfield 30, 3) := by decide +kernel
theorem dX0_waysWithNobodyBent_66 : decode cX0_waysWithNobodyBent 66 = .ok (.iload_n 2, 1) := by decide +kernel
theorem dX0_waysWithNobodyBent_67 : decode cX0_waysWithNobodyBent 67 = .ok (.aload_n 0, 1) := by decide +kernel
theorem dX0_waysWithNobodyBent_68 : decode cX0_waysWithNobodyBent 68 = .ok (.iload_n 1, 1) := by decide +kernel
theorem dX0_waysWithNobodyBent_69 : decode cX0_waysWithNobodyBent 69 = .ok (.iload_n 2, 1) := by decide +kernel
theorem dX0_waysWithNobodyBent_70 : decode cX0_waysWithNobodyBent 70 = .ok (.invokevirtual 109, 3) := by decide +kernel
theorem dX0_waysWithNobodyBent_73 : decode cX0_waysWithNobodyBent 73 = .ok (.iastore, 1) := by decide +kernel
theorem dX0_waysWithNobodyBent_74 : decode cX0_waysWithNobodyBent 74 = .ok (.iinc 2 (-1), 3) := by decide +kernel
theorem dX0_waysWithNobodyBent_77 : decode cX0_waysWithNobodyBent 77 = .ok (.goto (-30), 3) := by decide +kernel
theorem dX0_waysWithNobodyBent_80 : decode cX0_waysWithNobodyBent 80 = .ok (.iinc 1 1, 3) := by decide +kernel
theorem dX0_waysWithNobodyBent_83 : decode cX0_waysWithNobodyBent 83 = .ok (.goto (-52), 3) := by decide +kernel
theorem dX0_waysWithNobodyBent_86 : decode cX0_waysWithNobodyBent 86 = .ok (.aload_n 0, 1) := by decide +kernel
theorem dX0_waysWithNobodyBent_87 : decode cX0_waysWithNobodyBent 87 = .ok (.getfield 30, 3) := by decide +kernel
theorem dX0_waysWithNobodyBent_90 : decode cX0_waysWithNobodyBent 90 = .ok (.aload_n 0, 1) := by decide +kernel
theorem dX0_waysWithNobodyBent_91 : decode cX0_waysWithNobodyBent 91 = .ok (.getfield 16, 3) := by decide +kernel
theorem dX0_waysWithNobodyBent_94 : decode cX0_waysWithNobodyBent 94 = .ok (.iaload, 1) := by decide +kernel
theorem dX0_waysWithNobodyBent_95 : decode cX0_waysWithNobodyBent 95 = .ok (.ireturn, 1) := by decide +kernel
set_option maxRecDepth 20000 in
theorem ggX0_waysWith_X0_bends : GoodIn wsX0_waysWith wsX0_bends := goodIn_r _ [6, 7, 8, 9, 10, 11, 12, 13, 14, 15, 16, 17, 18, 19, 20, 21, 22, 23, 24, 25, 26, 27, 28] (by decide +kernel) (by decide +kernel)
set_option maxRecDepth 20000 in
theorem gX0_waysWith_X0_bends : GoodIn wsX0_waysWith (wsV RX0 93 RX0 yX0_bends wsX0_bends) := goodIn_app (goodIn_of _ (by decide +kernel)) ggX0_waysWith_X0_bends
theorem dX0_waysWith_0 : decode cX0_waysWith 0 = .ok (.iconst 0, 1) := by decide +kernel
theorem dX0_waysWith_1 : decode cX0_waysWith 1 = .ok (.istore_n 3, 1) := by decide +kernel
theorem dX0_waysWith_2 : decode cX0_waysWith 2 = .ok (.iconst 0, 1) := by decide +kernel
theorem dX0_waysWith_3 : decode cX0_waysWith 3 = .ok (.istore 4, 2) := by decide +kernel
theorem dX0_waysWith_5 : decode cX0_waysWith 5 = .ok (.iload 4, 2) := by decide +kernel
theorem dX0_waysWith_7 : decode cX0_waysWith 7 = .ok (.iload_n 2, 1) := by decide +kernel
theorem dX0_waysWith_8 : decode cX0_waysWith 8 = .ok (.if_icmp .gt 42, 3) := by decide +kernel
theorem dX0_waysWith_11 : decode cX0_waysWith 11 = .ok (.iload 4, 2) := by decide +kernel
theorem dX0_waysWith_13 : decode cX0_waysWith 13 = .ok (.iload_n 2, 1) := by decide +kernel
theorem dX0_waysWith_14 : decode cX0_waysWith 14 = .ok (.iconst (-1), 1) := by decide +kernel
theorem dX0_waysWith_15 : decode cX0_waysWith 15 = .ok (.ixor, 1) := by decide +kernel
theorem dX0_waysWith_16 : decode cX0_waysWith 16 = .ok (.iand, 1) := by decide +kernel
theorem dX0_waysWith_17 : decode cX0_waysWith 17 = .ok (.ifCond .ne 27, 3) := by decide +kernel
theorem dX0_waysWith_20 : decode cX0_waysWith 20 = .ok (.aload_n 0, 1) := by decide +kernel
theorem dX0_waysWith_21 : decode cX0_waysWith 21 = .ok (.iload_n 1, 1) := by decide +kernel
theorem dX0_waysWith_22 : decode cX0_waysWith 22 = .ok (.iload 4, 2) := by decide +kernel
theorem dX0_waysWith_24 : decode cX0_waysWith 24 = .ok (.invokevirtual 93, 3) := by decide +kernel
theorem dX0_waysWith_27 : decode cX0_waysWith 27 = .ok (.ifCond .ne 17, 3) := by decide +kernel
theorem dX0_waysWith_30 : decode cX0_waysWith 30 = .ok (.iload_n 3, 1) := by decide +kernel
theorem dX0_waysWith_31 : decode cX0_waysWith 31 = .ok (.aload_n 0, 1) := by decide +kernel
theorem dX0_waysWith_32 : decode cX0_waysWith 32 = .ok (.getfield 30, 3) := by decide +kernel
theorem dX0_waysWith_35 : decode cX0_waysWith 35 = .ok (.iload_n 2, 1) := by decide +kernel
theorem dX0_waysWith_36 : decode cX0_waysWith 36 = .ok (.iload 4, 2) := by decide +kernel
theorem dX0_waysWith_38 : decode cX0_waysWith 38 = .ok (.iconst (-1), 1) := by decide +kernel
theorem dX0_waysWith_39 : decode cX0_waysWith 39 = .ok (.ixor, 1) := by decide +kernel
theorem dX0_waysWith_40 : decode cX0_waysWith 40 = .ok (.iand, 1) := by decide +kernel
theorem dX0_waysWith_41 : decode cX0_waysWith 41 = .ok (.iaload, 1) := by decide +kernel
theorem dX0_waysWith_42 : decode cX0_waysWith 42 = .ok (.iadd, 1) := by decide +kernel
theorem dX0_waysWith_43 : decode cX0_waysWith 43 = .ok (.istore_n 3, 1) := by decide +kernel
theorem dX0_waysWith_44 : decode cX0_waysWith 44 = .ok (.iinc 4 1, 3) := by decide +kernel
theorem dX0_waysWith_47 : decode cX0_waysWith 47 = .ok (.goto (-42), 3) := by decide +kernel
theorem dX0_waysWith_50 : decode cX0_waysWith 50 = .ok (.iload_n 3, 1) := by decide +kernel
theorem dX0_waysWith_51 : decode cX0_waysWith 51 = .ok (.ireturn, 1) := by decide +kernel
theorem dX0_power_0 : decode cX0_power 0 = .ok (.iconst 1, 1) := by decide +kernel
theorem dX0_power_1 : decode cX0_power 1 = .ok (.istore_n 2, 1) := by decide +kernel
theorem dX0_power_2 : decode cX0_power 2 = .ok (.iconst 0, 1) := by decide +kernel
theorem dX0_power_3 : decode cX0_power 3 = .ok (.istore_n 3, 1) := by decide +kernel
theorem dX0_power_4 : decode cX0_power 4 = .ok (.iload_n 3, 1) := by decide +kernel
theorem dX0_power_5 : decode cX0_power 5 = .ok (.iload_n 1, 1) := by decide +kernel
theorem dX0_power_6 : decode cX0_power 6 = .ok (.if_icmp .ge 13, 3) := by decide +kernel
theorem dX0_power_9 : decode cX0_power 9 = .ok (.iload_n 2, 1) := by decide +kernel
theorem dX0_power_10 : decode cX0_power 10 = .ok (.iload_n 0, 1) := by decide +kernel
theorem dX0_power_11 : decode cX0_power 11 = .ok (.imul, 1) := by decide +kernel
theorem dX0_power_12 : decode cX0_power 12 = .ok (.istore_n 2, 1) := by decide +kernel
theorem dX0_power_13 : decode cX0_power 13 = .ok (.iinc 3 1, 3) := by decide +kernel
theorem dX0_power_16 : decode cX0_power 16 = .ok (.goto (-12), 3) := by decide +kernel
theorem dX0_power_19 : decode cX0_power 19 = .ok (.iload_n 2, 1) := by decide +kernel
theorem dX0_power_20 : decode cX0_power 20 = .ok (.ireturn, 1) := by decide +kernel
def fX0_bends (p1 : Int32) (p2 : Int32)  (ld_h : Nat → Nat → Int32) (st_n : Nat → Int32) : Option Int32 := gin p1 5 (gin p2 64 (gin p1 5 (if (ld_h (Int32.toNatClampNeg p1) (Int32.toNatClampNeg p2)) ≤ (st_n (Int32.toNatClampNeg p1)) then (some 0) else (some 1))))
theorem in_X0_bends_X0 : ∀ w ∈ wsX00, w ∈ wsX0_bends := by decide +kernel
theorem in_X0_bends_X1 : ∀ w ∈ wsX10, w ∈ wsX0_bends := by decide +kernel
set_option maxHeartbeats 4000000 in
set_option maxRecDepth 100000 in
theorem ct_X0_bends {l : Launch} {D : va_G} {g : Nat → ClassId} {qa : Nat → Nat} {E0 : Nat → va_E} {p1 : Int32} {p2 : Int32} {worn_h : Int32} {few_h : Int32} {bc_h : Int32} {ld_h : Nat → Nat → Int32} {so_h : Nat → Int32} {tr_h : Nat → Int32} {be_h : Nat → Int32} {wy_h : Nat → Int32} {men_n : Int32} {md_n : Int32} {day_n : Int32} {drw_n : Int32} {bu_n : Nat → Int32} {st_n : Nat → Int32} {ki_n : Nat → Int32} {we_n : Nat → Int32} {wo_n : Nat → Int32} {wr_n : Nat → Int32} (hG_h : Ha g qa E0 44 worn_h few_h bc_h ld_h so_h tr_h be_h wy_h) (hG_n : Mu g qa E0 1 men_n md_n day_n drw_n bu_n st_n ki_n we_n wo_n wr_n) {R : Int32} (hf : fX0_bends p1 p2 ld_h st_n = some R) : MI l yX0_bends wsX0_bends 0 D g qa E0 [.ref (qa 44), .int p1, .int p2] R (fun E => E = E0) := by
  refine MI.mk (by decide) rfl (Nat.le_of_ble_eq_true rfl) ?_
  intro p e s m args below meth c ls Q X hret hP hS hl
  have hl : lv_has ls 3 [(0, .ref (qa 44)), (1, .int p1), (2, .int p2)] := hl
  rw [fX0_bends] at hf
  refine lv_aload_n X.1 X.2.1 dX0_bends_0 rfl (lv_at hl 0 rfl) ?_
  refine x_get X hP hG_h.1 (by omega) rfl in_X0_bends_X0 1 (by decide) (by decide +kernel) rfl rfl dX0_bends_1 ?_
  refine lv_iload_n X.1 X.2.1 dX0_bends_4 rfl (lv_at hl 1 rfl) ?_
  obtain ⟨hi1, hf⟩ := gin_of hf
  have hj2 := in_lt hi1
  refine x_aald X hP 3 rfl rfl hG_h.2.1 (by omega) hi1 dX0_bends_5 ?_
  refine lv_iload_n X.1 X.2.1 dX0_bends_6 rfl (lv_at hl 2 rfl) ?_
  obtain ⟨hi3, hf⟩ := gin_of hf
  refine x_iald X hP (hG_h.2.2.1 _ hj2) (by omega) hi3 dX0_bends_7 ?_
  refine lv_aload_n X.1 X.2.1 dX0_bends_8 rfl (lv_at hl 0 rfl) ?_
  refine x_get X hP hG_h.1 (by omega) rfl in_X0_bends_X0 0 (by decide) (by decide +kernel) rfl rfl dX0_bends_9 ?_
  refine x_get X hP hG_n.1 (by omega) rfl in_X0_bends_X1 2 (by decide) (by decide +kernel) rfl rfl dX0_bends_12 ?_
  refine lv_iload_n X.1 X.2.1 dX0_bends_15 rfl (lv_at hl 1 rfl) ?_
  obtain ⟨hi4, hf⟩ := gin_of hf
  refine x_iald X hP hG_n.2.2.1 (by omega) hi4 dX0_bends_16 ?_
  refine lv_icmp_le (tgt := 24) X.1 X.2.1 dX0_bends_17 (by decide) (fun c5 => ?_) (fun c5 => ?_)
  · have hf := ifp hf c5
    refine lv_iconst (v := 0) X.1 X.2.1 dX0_bends_24 (by decide) ?_
    obtain rfl := Option.some.inj hf
    exact hret _ _ _ _ _ _ dX0_bends_25 rfl rfl (rfl) hP hS
  · have hf := ifn hf c5
    refine lv_iconst (v := 1) X.1 X.2.1 dX0_bends_20 (by decide) ?_
    refine lv_goto (tgt := 25) X.1 X.2.1 dX0_bends_21 (by decide) ?_
    obtain rfl := Option.some.inj hf
    exact hret _ _ _ _ _ _ dX0_bends_25 rfl rfl (rfl) hP hS
def fX0_costOfEven (p1 : Int32) (p2 : Int32)  (ld_h : Nat → Nat → Int32) (so_h : Nat → Int32) : Option Int32 := gin p2 5 (gin p2 5 (gin (so_h (Int32.toNatClampNeg p2)) 64 (some (if p1 < (ld_h (Int32.toNatClampNeg p2) (Int32.toNatClampNeg (so_h (Int32.toNatClampNeg p2)))) then ld_h (Int32.toNatClampNeg p2) (Int32.toNatClampNeg (so_h (Int32.toNatClampNeg p2))) else p1))))
theorem in_X0_costOfEven_X0 : ∀ w ∈ wsX00, w ∈ wsX0_costOfEven := by decide +kernel
set_option maxHeartbeats 4000000 in
set_option maxRecDepth 100000 in
theorem ct_X0_costOfEven {l : Launch} {D : va_G} {g : Nat → ClassId} {qa : Nat → Nat} {E0 : Nat → va_E} {p1 : Int32} {p2 : Int32} {worn_h : Int32} {few_h : Int32} {bc_h : Int32} {ld_h : Nat → Nat → Int32} {so_h : Nat → Int32} {tr_h : Nat → Int32} {be_h : Nat → Int32} {wy_h : Nat → Int32} (hG_h : Ha g qa E0 44 worn_h few_h bc_h ld_h so_h tr_h be_h wy_h) {R : Int32} (hf : fX0_costOfEven p1 p2 ld_h so_h = some R) : MI l yX0_costOfEven wsX0_costOfEven 1 D g qa E0 [.ref (qa 44), .int p1, .int p2] R (fun E => E = E0) := by
  refine MI.mk (by decide) rfl (Nat.le_of_ble_eq_true rfl) ?_
  intro p e s m args below meth c ls Q X hret hP hS hl
  have hl : lv_has ls 3 [(0, .ref (qa 44)), (1, .int p1), (2, .int p2)] := hl
  rw [fX0_costOfEven] at hf
  refine lv_iload_n X.1 X.2.1 dX0_costOfEven_0 rfl (lv_at hl 1 rfl) ?_
  refine lv_aload_n X.1 X.2.1 dX0_costOfEven_1 rfl (lv_at hl 0 rfl) ?_
  refine x_get X hP hG_h.1 (by omega) rfl in_X0_costOfEven_X0 1 (by decide) (by decide +kernel) rfl rfl dX0_costOfEven_2 ?_
  refine lv_iload_n X.1 X.2.1 dX0_costOfEven_5 rfl (lv_at hl 2 rfl) ?_
  obtain ⟨hi1, hf⟩ := gin_of hf
  have hj2 := in_lt hi1
  refine x_aald X hP 3 rfl rfl hG_h.2.1 (by omega) hi1 dX0_costOfEven_6 ?_
  refine lv_aload_n X.1 X.2.1 dX0_costOfEven_7 rfl (lv_at hl 0 rfl) ?_
  refine x_get X hP hG_h.1 (by omega) rfl in_X0_costOfEven_X0 3 (by decide) (by decide +kernel) rfl rfl dX0_costOfEven_8 ?_
  refine lv_iload_n X.1 X.2.1 dX0_costOfEven_11 rfl (lv_at hl 2 rfl) ?_
  obtain ⟨hi3, hf⟩ := gin_of hf
  refine x_iald X hP hG_h.2.2.2.1 (by omega) hi3 dX0_costOfEven_12 ?_
  obtain ⟨hi4, hf⟩ := gin_of hf
  refine x_iald X hP (hG_h.2.2.1 _ hj2) (by omega) hi4 dX0_costOfEven_13 ?_
  refine x_max X (index := 85) (by decide +kernel) (by decide +kernel) (by decide +kernel) (by decide +kernel) hl.1 (by decide) (Nat.le_of_ble_eq_true rfl) dX0_costOfEven_14 ?_
  obtain rfl := Option.some.inj hf
  exact hret _ _ _ _ _ _ dX0_costOfEven_17 rfl rfl (rfl) hP hS
def fX0_costOfFew (p1 : Int32) (p2 : Int32) (p3 : Int32) (p4 : Int32)  (ld_h : Nat → Nat → Int32) (so_h : Nat → Int32) (st_n : Nat → Int32) (wr_n : Nat → Int32) : Option Int32 := gin p4 6 (if (wr_n (Int32.toNatClampNeg p4)) = p2 then ((fX0_bends p2 p3 ld_h st_n).bind (fun r9 => if r9 = 0 then (gin p2 5 ((fX0_bends p2 (so_h (Int32.toNatClampNeg p2)) ld_h st_n).bind (fun r12 => if r12 = 0 then (some (p1 + 0)) else (nm (0 + 16) (fun x14 => some (p1 + x14)))))) else (some (p1 + 0)))) else ((fX0_bends p2 p3 ld_h st_n).bind (fun r3 => if r3 = 0 then (gin p2 5 ((fX0_bends p2 (so_h (Int32.toNatClampNeg p2)) ld_h st_n).bind (fun r6 => if r6 = 0 then (some (p1 + 1)) else (nm (1 + 16) (fun x8 => some (p1 + x8)))))) else (some (p1 + 1)))))
theorem in_X0_costOfFew_X0 : ∀ w ∈ wsX00, w ∈ wsX0_costOfFew := by decide +kernel
theorem in_X0_costOfFew_X1 : ∀ w ∈ wsX10, w ∈ wsX0_costOfFew := by decide +kernel
set_option maxHeartbeats 4000000 in
set_option maxRecDepth 100000 in
theorem ct_X0_costOfFew {l : Launch} {D : va_G} {g : Nat → ClassId} {qa : Nat → Nat} {E0 : Nat → va_E} {p1 : Int32} {p2 : Int32} {p3 : Int32} {p4 : Int32} {worn_h : Int32} {few_h : Int32} {bc_h : Int32} {ld_h : Nat → Nat → Int32} {so_h : Nat → Int32} {tr_h : Nat → Int32} {be_h : Nat → Int32} {wy_h : Nat → Int32} {men_n : Int32} {md_n : Int32} {day_n : Int32} {drw_n : Int32} {bu_n : Nat → Int32} {st_n : Nat → Int32} {ki_n : Nat → Int32} {we_n : Nat → Int32} {wo_n : Nat → Int32} {wr_n : Nat → Int32} (hG_h : Ha g qa E0 44 worn_h few_h bc_h ld_h so_h tr_h be_h wy_h) (hG_n : Mu g qa E0 1 men_n md_n day_n drw_n bu_n st_n ki_n we_n wo_n wr_n) {R : Int32} (hf : fX0_costOfFew p1 p2 p3 p4 ld_h so_h st_n wr_n = some R) : MI l yX0_costOfFew wsX0_costOfFew 1 D g qa E0 [.ref (qa 44), .int p1, .int p2, .int p3, .int p4] R (fun E => E = E0) := by
  refine MI.mk (by decide) rfl (Nat.le_of_ble_eq_true rfl) ?_
  intro p e s m args below meth c ls Q X hret hP hS hl
  have hl : lv_has ls 6 [(0, .ref (qa 44)), (1, .int p1), (2, .int p2), (3, .int p3), (4, .int p4)] := hl
  rw [fX0_costOfFew] at hf
  refine lv_aload_n X.1 X.2.1 dX0_costOfFew_0 rfl (lv_at hl 0 rfl) ?_
  refine x_get X hP hG_h.1 (by omega) rfl in_X0_costOfFew_X0 0 (by decide) (by decide +kernel) rfl rfl dX0_costOfFew_1 ?_
  refine x_get X hP hG_n.1 (by omega) rfl in_X0_costOfFew_X1 7 (by decide) (by decide +kernel) rfl rfl dX0_costOfFew_4 ?_
  refine lv_iload X.1 X.2.1 dX0_costOfFew_7 (lv_at hl 4 rfl) ?_
  obtain ⟨hi1, hf⟩ := gin_of hf
  refine x_iald X hP hG_n.2.2.2.2.2.2 (by omega) hi1 dX0_costOfFew_9 ?_
  refine lv_iload_n X.1 X.2.1 dX0_costOfFew_10 rfl (lv_at hl 2 rfl) ?_
  refine lv_icmp_ne (tgt := 18) X.1 X.2.1 dX0_costOfFew_11 (by decide) (fun c2 => ?_) (fun c2 => ?_)
  · have hf := ifn hf c2
    refine lv_iconst (v := 1) X.1 X.2.1 dX0_costOfFew_18 (by decide) ?_
    refine lv_istore (lv' := [(5, .int 1), (0, .ref (qa 44)), (1, .int p1), (2, .int p2), (3, .int p3), (4, .int p4)]) X.1 X.2.1 dX0_costOfFew_19 hl (by decide) rfl (fun ls hl => ?_)
    refine lv_aload_n X.1 X.2.1 dX0_costOfFew_21 rfl (lv_at hl 1 rfl) ?_
    refine lv_iload_n X.1 X.2.1 dX0_costOfFew_22 rfl (lv_at hl 3 rfl) ?_
    refine lv_iload_n X.1 X.2.1 dX0_costOfFew_23 rfl (lv_at hl 4 rfl) ?_
    obtain ⟨r3, hr3, hf⟩ := bd_of hf
    refine x_rdVi X hP hS hG_h.1 (by omega) rfl (n := 2) (As := [.int p2, .int p3]) (ct_X0_bends hG_h hG_n hr3) gX0_costOfFew_X0_bends rfl (by decide +kernel) ⟨by decide, by decide⟩ rfl hl.1 rfl (Nat.le_of_ble_eq_true rfl) dX0_costOfFew_24 (fun H locs hP hS => ?_)
    refine lv_if_ne (tgt := 47) X.1 X.2.1 dX0_costOfFew_27 (by decide) (fun c4 => ?_) (fun c4 => ?_)
    · have hf := ifn hf c4
      refine lv_iload_n X.1 X.2.1 dX0_costOfFew_47 rfl (lv_at hl 2 rfl) ?_
      refine lv_iload X.1 X.2.1 dX0_costOfFew_48 (lv_at hl 0 rfl) ?_
      refine lv_iadd X.1 X.2.1 dX0_costOfFew_50 ?_
      obtain rfl := Option.some.inj hf
      exact hret _ _ _ _ _ _ dX0_costOfFew_51 rfl rfl (rfl) hP hS
    · have hf := ifp hf c4
      refine lv_aload_n X.1 X.2.1 dX0_costOfFew_30 rfl (lv_at hl 1 rfl) ?_
      refine lv_iload_n X.1 X.2.1 dX0_costOfFew_31 rfl (lv_at hl 3 rfl) ?_
      refine lv_aload_n X.1 X.2.1 dX0_costOfFew_32 rfl (lv_at hl 1 rfl) ?_
      refine x_get X hP hG_h.1 (by omega) rfl in_X0_costOfFew_X0 3 (by decide) (by decide +kernel) rfl rfl dX0_costOfFew_33 ?_
      refine lv_iload_n X.1 X.2.1 dX0_costOfFew_36 rfl (lv_at hl 3 rfl) ?_
      obtain ⟨hi5, hf⟩ := gin_of hf
      refine x_iald X hP hG_h.2.2.2.1 (by omega) hi5 dX0_costOfFew_37 ?_
      obtain ⟨r6, hr6, hf⟩ := bd_of hf
      refine x_rdVi X hP hS hG_h.1 (by omega) rfl (n := 2) (As := [.int p2, .int (so_h (Int32.toNatClampNeg p2))]) (ct_X0_bends hG_h hG_n hr6) gX0_costOfFew_X0_bends rfl (by decide +kernel) ⟨by decide, by decide⟩ rfl hl.1 rfl (Nat.le_of_ble_eq_true rfl) dX0_costOfFew_38 (fun H locs hP hS => ?_)
      refine lv_if_eq (tgt := 47) X.1 X.2.1 dX0_costOfFew_41 (by decide) (fun c7 => ?_) (fun c7 => ?_)
      · have hf := ifp hf c7
        refine lv_iload_n X.1 X.2.1 dX0_costOfFew_47 rfl (lv_at hl 2 rfl) ?_
        refine lv_iload X.1 X.2.1 dX0_costOfFew_48 (lv_at hl 0 rfl) ?_
        refine lv_iadd X.1 X.2.1 dX0_costOfFew_50 ?_
        obtain rfl := Option.some.inj hf
        exact hret _ _ _ _ _ _ dX0_costOfFew_51 rfl rfl (rfl) hP hS
      · have hf := ifn hf c7
        obtain ⟨x8, ex8, hf⟩ := nm_of hf
        refine lv_iinc (v := x8) (lv' := [(5, .int x8), (0, .ref (qa 44)), (1, .int p1), (2, .int p2), (3, .int p3), (4, .int p4)]) X.1 X.2.1 dX0_costOfFew_44 hl (k := 0) rfl (by rw [ex8]; rfl) (by decide) rfl (fun ls hl => ?_)
        refine lv_iload_n X.1 X.2.1 dX0_costOfFew_47 rfl (lv_at hl 2 rfl) ?_
        refine lv_iload X.1 X.2.1 dX0_costOfFew_48 (lv_at hl 0 rfl) ?_
        refine lv_iadd X.1 X.2.1 dX0_costOfFew_50 ?_
        obtain rfl := Option.some.inj hf
        exact hret _ _ _ _ _ _ dX0_costOfFew_51 rfl rfl (rfl) hP hS
  · have hf := ifp hf c2
    refine lv_iconst (v := 0) X.1 X.2.1 dX0_costOfFew_14 (by decide) ?_
    refine lv_goto (tgt := 19) X.1 X.2.1 dX0_costOfFew_15 (by decide) ?_
    refine lv_istore (lv' := [(5, .int 0), (0, .ref (qa 44)), (1, .int p1), (2, .int p2), (3, .int p3), (4, .int p4)]) X.1 X.2.1 dX0_costOfFew_19 hl (by decide) rfl (fun ls hl => ?_)
    refine lv_aload_n X.1 X.2.1 dX0_costOfFew_21 rfl (lv_at hl 1 rfl) ?_
    refine lv_iload_n X.1 X.2.1 dX0_costOfFew_22 rfl (lv_at hl 3 rfl) ?_
    refine lv_iload_n X.1 X.2.1 dX0_costOfFew_23 rfl (lv_at hl 4 rfl) ?_
    obtain ⟨r9, hr9, hf⟩ := bd_of hf
    refine x_rdVi X hP hS hG_h.1 (by omega) rfl (n := 2) (As := [.int p2, .int p3]) (ct_X0_bends hG_h hG_n hr9) gX0_costOfFew_X0_bends rfl (by decide +kernel) ⟨by decide, by decide⟩ rfl hl.1 rfl (Nat.le_of_ble_eq_true rfl) dX0_costOfFew_24 (fun H locs hP hS => ?_)
    refine lv_if_ne (tgt := 47) X.1 X.2.1 dX0_costOfFew_27 (by decide) (fun c10 => ?_) (fun c10 => ?_)
    · have hf := ifn hf c10
      refine lv_iload_n X.1 X.2.1 dX0_costOfFew_47 rfl (lv_at hl 2 rfl) ?_
      refine lv_iload X.1 X.2.1 dX0_costOfFew_48 (lv_at hl 0 rfl) ?_
      refine lv_iadd X.1 X.2.1 dX0_costOfFew_50 ?_
      obtain rfl := Option.some.inj hf
      exact hret _ _ _ _ _ _ dX0_costOfFew_51 rfl rfl (rfl) hP hS
    · have hf := ifp hf c10
      refine lv_aload_n X.1 X.2.1 dX0_costOfFew_30 rfl (lv_at hl 1 rfl) ?_
      refine lv_iload_n X.1 X.2.1 dX0_costOfFew_31 rfl (lv_at hl 3 rfl) ?_
      refine lv_aload_n X.1 X.2.1 dX0_costOfFew_32 rfl (lv_at hl 1 rfl) ?_
      refine x_get X hP hG_h.1 (by omega) rfl in_X0_costOfFew_X0 3 (by decide) (by decide +kernel) rfl rfl dX0_costOfFew_33 ?_
      refine lv_iload_n X.1 X.2.1 dX0_costOfFew_36 rfl (lv_at hl 3 rfl) ?_
      obtain ⟨hi11, hf⟩ := gin_of hf
      refine x_iald X hP hG_h.2.2.2.1 (by omega) hi11 dX0_costOfFew_37 ?_
      obtain ⟨r12, hr12, hf⟩ := bd_of hf
      refine x_rdVi X hP hS hG_h.1 (by omega) rfl (n := 2) (As := [.int p2, .int (so_h (Int32.toNatClampNeg p2))]) (ct_X0_bends hG_h hG_n hr12) gX0_costOfFew_X0_bends rfl (by decide +kernel) ⟨by decide, by decide⟩ rfl hl.1 rfl (Nat.le_of_ble_eq_true rfl) dX0_costOfFew_38 (fun H locs hP hS => ?_)
      refine lv_if_eq (tgt := 47) X.1 X.2.1 dX0_costOfFew_41 (by decide) (fun c13 => ?_) (fun c13 => ?_)
      · have hf := ifp hf c13
        refine lv_iload_n X.1 X.2.1 dX0_costOfFew_47 rfl (lv_at hl 2 rfl) ?_
        refine lv_iload X.1 X.2.1 dX0_costOfFew_48 (lv_at hl 0 rfl) ?_
        refine lv_iadd X.1 X.2.1 dX0_costOfFew_50 ?_
        obtain rfl := Option.some.inj hf
        exact hret _ _ _ _ _ _ dX0_costOfFew_51 rfl rfl (rfl) hP hS
      · have hf := ifn hf c13
        obtain ⟨x14, ex14, hf⟩ := nm_of hf
        refine lv_iinc (v := x14) (lv' := [(5, .int x14), (0, .ref (qa 44)), (1, .int p1), (2, .int p2), (3, .int p3), (4, .int p4)]) X.1 X.2.1 dX0_costOfFew_44 hl (k := 0) rfl (by rw [ex14]; rfl) (by decide) rfl (fun ls hl => ?_)
        refine lv_iload_n X.1 X.2.1 dX0_costOfFew_47 rfl (lv_at hl 2 rfl) ?_
        refine lv_iload X.1 X.2.1 dX0_costOfFew_48 (lv_at hl 0 rfl) ?_
        refine lv_iadd X.1 X.2.1 dX0_costOfFew_50 ?_
        obtain rfl := Option.some.inj hf
        exact hret _ _ _ _ _ _ dX0_costOfFew_51 rfl rfl (rfl) hP hS
def bX0_prepare_26 (md_n : Int32) (day_n : Int32) (ki_n : Nat → Int32) (we_n : Nat → Int32) (wo_n : Nat → Int32) (r1 : Int32) (v1_2 : Int32) (K2 : ((Int32 × (Nat → Nat → Int32))) → Option (Int32 × (Nat → Nat → Int32))) (K4 : ((Int32 × (Nat → Nat → Int32))) → Option (Int32 × (Nat → Nat → Int32))) : ((Int32 × (Nat → Nat → Int32))) → Option (Int32 × (Nat → Nat → Int32))
  | (v2_4, ld_h_4) => if r1 < v2_4 then (nm (v1_2 + 1) (fun x6 => K2 (x6, ld_h_4))) else (if (v2_4 &&& (r1 ^^^ (-1))) = 0 then (gin v1_2 5 ((fX1_loadOfSet v1_2 v2_4 day_n md_n ki_n we_n wo_n).bind (fun r11 => gin v2_4 64 (nm (v2_4 + 1) (fun x13 => K4 (x13, va_up ld_h_4 (Int32.toNatClampNeg v1_2) (upd (ld_h_4 (Int32.toNatClampNeg v1_2)) (Int32.toNatClampNeg v2_4) r11))))))) else (nm (v2_4 + 1) (fun x8 => K4 (x8, ld_h_4))))
def bX0_prepare_13 (men_n : Int32) (md_n : Int32) (day_n : Int32) (ki_n : Nat → Int32) (we_n : Nat → Int32) (wo_n : Nat → Int32) (r1 : Int32) (K2 : ((Int32 × (Nat → Nat → Int32))) → Option (Int32 × (Nat → Nat → Int32))) : ((Int32 × (Nat → Nat → Int32))) → Option (Int32 × (Nat → Nat → Int32))
  | (v1_2, ld_h_2) => if men_n ≤ v1_2 then (some (r1, ld_h_2)) else (lp (bX0_prepare_26 md_n day_n ki_n we_n wo_n r1 v1_2 K2) FU (0, ld_h_2))
def fX0_prepare   (ld_h : Nat → Nat → Int32) (men_n : Int32) (md_n : Int32) (day_n : Int32) (ki_n : Nat → Int32) (we_n : Nat → Int32) (wo_n : Nat → Int32) (wr_n : Nat → Int32) : Option (Int32 × (Nat → Nat → Int32)) := (fX1_allWorn md_n wr_n).bind (fun r1 => lp (bX0_prepare_13 men_n md_n day_n ki_n we_n wo_n r1) FU (0, ld_h))
theorem in_X0_prepare_X0 : ∀ w ∈ wsX00, w ∈ wsX0_prepare := by decide +kernel
theorem in_X0_prepare_X1 : ∀ w ∈ wsX10, w ∈ wsX0_prepare := by decide +kernel
set_option maxHeartbeats 4000000 in
set_option maxRecDepth 100000 in
theorem ct_X0_prepare {l : Launch} {D : va_G} {g : Nat → ClassId} {qa : Nat → Nat} {E0 : Nat → va_E} {worn_h : Int32} {few_h : Int32} {bc_h : Int32} {ld_h : Nat → Nat → Int32} {so_h : Nat → Int32} {tr_h : Nat → Int32} {be_h : Nat → Int32} {wy_h : Nat → Int32} {men_n : Int32} {md_n : Int32} {day_n : Int32} {drw_n : Int32} {bu_n : Nat → Int32} {st_n : Nat → Int32} {ki_n : Nat → Int32} {we_n : Nat → Int32} {wo_n : Nat → Int32} {wr_n : Nat → Int32} (hG_h : Ha g qa E0 44 worn_h few_h bc_h ld_h so_h tr_h be_h wy_h) (hG_n : Mu g qa E0 1 men_n md_n day_n drw_n bu_n st_n ki_n we_n wo_n wr_n) {R : (Int32 × (Nat → Nat → Int32))} (hf : fX0_prepare ld_h men_n md_n day_n ki_n we_n wo_n wr_n = some R) : MV l yX0_prepare wsX0_prepare 3 D g qa E0 [.ref (qa 44)] (fun E => Ha g qa E 44 R.1 few_h bc_h R.2 so_h tr_h be_h wy_h ∧ ∀ j, (j < 44 ∨ 55 ≤ j) → E j = E0 j) := by
  refine MV.mk (by decide) rfl (Nat.le_of_ble_eq_true rfl) ?_
  intro p e s m args below meth c ls Q X hret hP hS hl
  have hl : lv_has ls 3 [(0, .ref (qa 44))] := hl
  have hfr : ∀ j, (j < 44 ∨ 55 ≤ j) → E0 j = E0 j := fun _ _ => rfl
  rw [fX0_prepare] at hf
  refine lv_aload_n X.1 X.2.1 dX0_prepare_0 rfl (lv_at hl 0 rfl) ?_
  refine lv_aload_n X.1 X.2.1 dX0_prepare_1 rfl (lv_at hl 0 rfl) ?_
  refine x_get X hP hG_h.1 (by omega) rfl in_X0_prepare_X0 0 (by decide) (by decide +kernel) rfl rfl dX0_prepare_2 ?_
  obtain ⟨r1, hr1, hf⟩ := bd_of hf
  refine x_rdVi X hP hS hG_n.1 (by omega) rfl (n := 0) (As := []) (ct_X1_allWorn (by omega) hG_n hr1) gX0_prepare_X1_allWorn rfl (by decide +kernel) ⟨by decide, by decide⟩ rfl hl.1 rfl (Nat.le_of_ble_eq_true rfl) dX0_prepare_5 (fun H locs hP hS => ?_)
  refine x_put (ty := .int) X hP hS hG_h.1 (by omega) rfl in_X0_prepare_X0 tyX0 tyX0_ok nmX0 2 (by decide) (by decide +kernel) rfl rfl (by decide +kernel) rfl rfl (Nat.le_of_ble_eq_true rfl) dX0_prepare_8 (fun E H locs h1 hk hP hS => ?_)
  have hG_h := Ha_set_0 hG_h h1 hk
  have hG_n := Mu_kept hG_n (fun j h8 h9 => hk j (by omega))
  have hfr : ∀ j, (j < 44 ∨ 55 ≤ j) → E j = E0 j := fun j o0 => (hk j (by omega)).trans (hfr j o0)
  refine lv_iconst (v := 0) X.1 X.2.1 dX0_prepare_11 (by decide) ?_
  refine lv_istore_n (lv' := [(1, .int 0), (0, .ref (qa 44))]) X.1 X.2.1 dX0_prepare_12 rfl hl (by decide) rfl (fun ls hl => ?_)
  have lp2 : ∀ (n2 : Nat) (v1_2 : Int32) (ld_h_2 : Nat → Nat → Int32) (E : Nat → va_E) (H : Heap) (locs : List Loc) (ls : Array Slot), lp (bX0_prepare_13 men_n md_n day_n ki_n we_n wo_n r1) n2 (v1_2, ld_h_2) = some R → va_P D vwCl (WD qa E) H → va_S (gA qa s.heap.size) s.heap H locs → Ha g qa E 44 r1 few_h bc_h ld_h_2 so_h tr_h be_h wy_h → Mu g qa E 1 men_n md_n day_n drw_n bu_n st_n ki_n we_n wo_n wr_n → (∀ j, (j < 44 ∨ 55 ≤ j) → E j = E0 j) → lv_has ls 3 [(0, .ref (qa 44)), (1, .int v1_2)] → W p l e (rmf 3) s m args below meth c H locs 0 0 Q (F0 m 13 ls []) := by
    intro n2
    induction n2 with
    | zero =>
      intro v1_2 ld_h_2 E H locs ls hf
      exact absurd hf (by intro h; cases h)
    | succ n2 ih2 =>
      intro v1_2 ld_h_2 E H locs ls hf hP hS hG_h hG_n hfr hl
      have hf : bX0_prepare_13 men_n md_n day_n ki_n we_n wo_n r1 (lp (bX0_prepare_13 men_n md_n day_n ki_n we_n wo_n r1) n2) (v1_2, ld_h_2) = some R := hf
      rw [bX0_prepare_13] at hf
      refine lv_iload_n X.1 X.2.1 dX0_prepare_13 rfl (lv_at hl 1 rfl) ?_
      refine lv_aload_n X.1 X.2.1 dX0_prepare_14 rfl (lv_at hl 0 rfl) ?_
      refine x_get X hP hG_h.1 (by omega) rfl in_X0_prepare_X0 0 (by decide) (by decide +kernel) rfl rfl dX0_prepare_15 ?_
      refine x_get X hP hG_n.1 (by omega) rfl in_X0_prepare_X1 0 (by decide) (by decide +kernel) rfl rfl dX0_prepare_18 ?_
      refine lv_icmp_ge (tgt := 81) X.1 X.2.1 dX0_prepare_21 (by decide) (fun c3 => ?_) (fun c3 => ?_)
      · have hf := ifp hf c3
        obtain rfl := Option.some.inj hf
        exact hret _ _ _ _ _ dX0_prepare_81 (⟨hG_h, hfr⟩) hP hS
      · have hf := ifn hf c3
        refine lv_iconst (v := 0) X.1 X.2.1 dX0_prepare_24 (by decide) ?_
        refine lv_istore_n (lv' := [(2, .int 0), (0, .ref (qa 44)), (1, .int v1_2)]) X.1 X.2.1 dX0_prepare_25 rfl hl (by decide) rfl (fun ls hl => ?_)
        have lp4 : ∀ (n4 : Nat) (v2_4 : Int32) (ld_h_4 : Nat → Nat → Int32) (E : Nat → va_E) (H : Heap) (locs : List Loc) (ls : Array Slot), lp (bX0_prepare_26 md_n day_n ki_n we_n wo_n r1 v1_2 (lp (bX0_prepare_13 men_n md_n day_n ki_n we_n wo_n r1) n2)) n4 (v2_4, ld_h_4) = some R → va_P D vwCl (WD qa E) H → va_S (gA qa s.heap.size) s.heap H locs → Ha g qa E 44 r1 few_h bc_h ld_h_4 so_h tr_h be_h wy_h → Mu g qa E 1 men_n md_n day_n drw_n bu_n st_n ki_n we_n wo_n wr_n → (∀ j, (j < 44 ∨ 55 ≤ j) → E j = E0 j) → lv_has ls 3 [(0, .ref (qa 44)), (1, .int v1_2), (2, .int v2_4)] → W p l e (rmf 3) s m args below meth c H locs 0 0 Q (F0 m 26 ls []) := by
          intro n4
          induction n4 with
          | zero =>
            intro v2_4 ld_h_4 E H locs ls hf
            exact absurd hf (by intro h; cases h)
          | succ n4 ih4 =>
            intro v2_4 ld_h_4 E H locs ls hf hP hS hG_h hG_n hfr hl
            have hf : bX0_prepare_26 md_n day_n ki_n we_n wo_n r1 v1_2 (lp (bX0_prepare_13 men_n md_n day_n ki_n we_n wo_n r1) n2) (lp (bX0_prepare_26 md_n day_n ki_n we_n wo_n r1 v1_2 (lp (bX0_prepare_13 men_n md_n day_n ki_n we_n wo_n r1) n2)) n4) (v2_4, ld_h_4) = some R := hf
            rw [bX0_prepare_26] at hf
            refine lv_iload_n X.1 X.2.1 dX0_prepare_26 rfl (lv_at hl 2 rfl) ?_
            refine lv_aload_n X.1 X.2.1 dX0_prepare_27 rfl (lv_at hl 0 rfl) ?_
            refine x_get X hP hG_h.1 (by omega) rfl in_X0_prepare_X0 2 (by decide) (by decide +kernel) rfl rfl dX0_prepare_28 ?_
            refine lv_icmp_gt (tgt := 75) X.1 X.2.1 dX0_prepare_31 (by decide) (fun c5 => ?_) (fun c5 => ?_)
            · have hf := ifp hf c5
              obtain ⟨x6, ex6, hf⟩ := nm_of hf
              refine lv_iinc (v := x6) (lv' := [(1, .int x6), (0, .ref (qa 44)), (2, .int v2_4)]) X.1 X.2.1 dX0_prepare_75 hl (k := 1) rfl (by rw [ex6]; rfl) (by decide) rfl (fun ls hl => ?_)
              refine lv_goto (tgt := 13) X.1 X.2.1 dX0_prepare_78 (by decide) ?_
              exact ih2 x6 ld_h_4 _ _ _ _ hf hP hS hG_h hG_n hfr (lv_sub hl [1, 0] rfl)
            · have hf := ifn hf c5
              refine lv_iload_n X.1 X.2.1 dX0_prepare_34 rfl (lv_at hl 2 rfl) ?_
              refine lv_aload_n X.1 X.2.1 dX0_prepare_35 rfl (lv_at hl 0 rfl) ?_
              refine x_get X hP hG_h.1 (by omega) rfl in_X0_prepare_X0 2 (by decide) (by decide +kernel) rfl rfl dX0_prepare_36 ?_
              refine lv_iconst (v := (-1)) X.1 X.2.1 dX0_prepare_39 (by decide) ?_
              refine lv_ixor X.1 X.2.1 dX0_prepare_40 ?_
              refine lv_iand X.1 X.2.1 dX0_prepare_41 ?_
              refine lv_if_ne (tgt := 69) X.1 X.2.1 dX0_prepare_42 (by decide) (fun c7 => ?_) (fun c7 => ?_)
              · have hf := ifn hf c7
                obtain ⟨x8, ex8, hf⟩ := nm_of hf
                refine lv_iinc (v := x8) (lv' := [(2, .int x8), (0, .ref (qa 44)), (1, .int v1_2)]) X.1 X.2.1 dX0_prepare_69 hl (k := 2) rfl (by rw [ex8]; rfl) (by decide) rfl (fun ls hl => ?_)
                refine lv_goto (tgt := 26) X.1 X.2.1 dX0_prepare_72 (by decide) ?_
                exact ih4 x8 ld_h_4 _ _ _ _ hf hP hS hG_h hG_n hfr (lv_sub hl [1, 2, 0] rfl)
              · have hf := ifp hf c7
                refine lv_aload_n X.1 X.2.1 dX0_prepare_45 rfl (lv_at hl 0 rfl) ?_
                refine x_get X hP hG_h.1 (by omega) rfl in_X0_prepare_X0 1 (by decide) (by decide +kernel) rfl rfl dX0_prepare_46 ?_
                refine lv_iload_n X.1 X.2.1 dX0_prepare_49 rfl (lv_at hl 1 rfl) ?_
                obtain ⟨hi9, hf⟩ := gin_of hf
                have hj10 := in_lt hi9
                refine x_aald X hP 3 rfl rfl hG_h.2.1 (by omega) hi9 dX0_prepare_50 ?_
                refine lv_iload_n X.1 X.2.1 dX0_prepare_51 rfl (lv_at hl 2 rfl) ?_
                refine lv_aload_n X.1 X.2.1 dX0_prepare_52 rfl (lv_at hl 0 rfl) ?_
                refine x_get X hP hG_h.1 (by omega) rfl in_X0_prepare_X0 0 (by decide) (by decide +kernel) rfl rfl dX0_prepare_53 ?_
                refine lv_iload_n X.1 X.2.1 dX0_prepare_56 rfl (lv_at hl 1 rfl) ?_
                refine lv_iload_n X.1 X.2.1 dX0_prepare_57 rfl (lv_at hl 2 rfl) ?_
                refine lv_aload_n X.1 X.2.1 dX0_prepare_58 rfl (lv_at hl 0 rfl) ?_
                refine x_get X hP hG_h.1 (by omega) rfl in_X0_prepare_X0 0 (by decide) (by decide +kernel) rfl rfl dX0_prepare_59 ?_
                refine x_get X hP hG_n.1 (by omega) rfl in_X0_prepare_X1 8 (by decide) (by decide +kernel) rfl rfl dX0_prepare_62 ?_
                obtain ⟨r11, hr11, hf⟩ := bd_of hf
                refine x_rdVi X hP hS hG_n.1 (by omega) rfl (n := 3) (As := [.int v1_2, .int v2_4, .int day_n]) (ct_X1_loadOfSet (by omega) hG_n hr11) gX0_prepare_X1_loadOfSet rfl (by decide +kernel) ⟨by decide, by decide⟩ rfl hl.1 rfl (Nat.le_of_ble_eq_true rfl) dX0_prepare_65 (fun H locs hP hS => ?_)
                obtain ⟨hi12, hf⟩ := gin_of hf
                refine x_iast X hP hS (hG_h.2.2.1 _ hj10) (by omega) hi12 dX0_prepare_68 (fun E H locs h1 hk hP hS => ?_)
                have hG_h := Ha_set_2 hG_h hj10 h1 hk
                have hG_n := Mu_kept hG_n (fun j h8 h9 => hk j (by omega))
                have hfr : ∀ j, (j < 44 ∨ 55 ≤ j) → E j = E0 j := fun j o0 => (hk j (by omega)).trans (hfr j o0)
                obtain ⟨x13, ex13, hf⟩ := nm_of hf
                refine lv_iinc (v := x13) (lv' := [(2, .int x13), (0, .ref (qa 44)), (1, .int v1_2)]) X.1 X.2.1 dX0_prepare_69 hl (k := 2) rfl (by rw [ex13]; rfl) (by decide) rfl (fun ls hl => ?_)
                refine lv_goto (tgt := 26) X.1 X.2.1 dX0_prepare_72 (by decide) ?_
                exact ih4 x13 (va_up ld_h_4 (Int32.toNatClampNeg v1_2) (upd (ld_h_4 (Int32.toNatClampNeg v1_2)) (Int32.toNatClampNeg v2_4) r11)) _ _ _ _ hf hP hS hG_h hG_n hfr (lv_sub hl [1, 2, 0] rfl)
        exact lp4 FU 0 ld_h_2 _ _ _ _ hf hP hS hG_h hG_n hfr (lv_sub hl [1, 2, 0] rfl)
  exact lp2 FU 0 ld_h _ _ _ _ hf hP hS hG_h hG_n hfr (lv_sub hl [1, 0] rfl)
def bX0_hangFrom_58 (KR : ((Int32 × Int32 × Int32 × (Nat → Int32) × (Nat → Int32) × (Nat → Int32))) → Option (Int32 × (Nat → Int32) × (Nat → Int32) × (Nat → Int32))) (few_h : Int32) (ld_h : Nat → Nat → Int32) (men_n : Int32) (st_n : Nat → Int32) (wr_n : Nat → Int32) (p1 : Int32) (p2 : Int32) (K4 : ((Int32 × Int32 × (Nat → Int32) × (Nat → Int32) × (Nat → Int32))) → Option (Int32 × (Nat → Int32) × (Nat → Int32) × (Nat → Int32))) : ((Int32 × Int32 × (Nat → Int32) × (Nat → Int32) × (Nat → Int32))) → Option (Int32 × (Nat → Int32) × (Nat → Int32) × (Nat → Int32))
  | (v3_4, bc_h_4, so_h_4, tr_h_4, be_h_4) => if men_n ≤ v3_4 then (some (bc_h_4, so_h_4, tr_h_4, be_h_4)) else (gin v3_4 5 (nm (so_h_4 (Int32.toNatClampNeg v3_4)) (fun x7 => gin v3_4 5 (gin p1 6 (if few_h = 0 then ((fX0_costOfEven p2 v3_4 ld_h (upd so_h_4 (Int32.toNatClampNeg v3_4) (x7 ||| (1 <<< (p1 &&& 31))))).bind (fun r11 => (KR (p1 + 1, r11, bc_h_4, upd so_h_4 (Int32.toNatClampNeg v3_4) (x7 ||| (1 <<< (p1 &&& 31))), upd tr_h_4 (Int32.toNatClampNeg p1) v3_4, be_h_4)).bind (fun r12 => gin v3_4 5 (nm (v3_4 + 1) (fun x14 => K4 (x14, r12.1, upd r12.2.1 (Int32.toNatClampNeg v3_4) x7, r12.2.2.1, r12.2.2.2)))))) else ((fX0_costOfFew p2 v3_4 x7 p1 ld_h (upd so_h_4 (Int32.toNatClampNeg v3_4) (x7 ||| (1 <<< (p1 &&& 31)))) st_n wr_n).bind (fun r15 => (KR (p1 + 1, r15, bc_h_4, upd so_h_4 (Int32.toNatClampNeg v3_4) (x7 ||| (1 <<< (p1 &&& 31))), upd tr_h_4 (Int32.toNatClampNeg p1) v3_4, be_h_4)).bind (fun r16 => gin v3_4 5 (nm (v3_4 + 1) (fun x18 => K4 (x18, r16.1, upd r16.2.1 (Int32.toNatClampNeg v3_4) x7, r16.2.2.1, r16.2.2.2)))))))))))
def rX0_hangFrom (worn_h : Int32) (few_h : Int32) (ld_h : Nat → Nat → Int32) (men_n : Int32) (st_n : Nat → Int32) (wr_n : Nat → Int32) (KR : ((Int32 × Int32 × Int32 × (Nat → Int32) × (Nat → Int32) × (Nat → Int32))) → Option (Int32 × (Nat → Int32) × (Nat → Int32) × (Nat → Int32))) : ((Int32 × Int32 × Int32 × (Nat → Int32) × (Nat → Int32) × (Nat → Int32))) → Option (Int32 × (Nat → Int32) × (Nat → Int32) × (Nat → Int32))
  | (p1, p2, bc_h, so_h, tr_h, be_h) => if p2 < bc_h then (if p1 < 6 then (if ((worn_h >>> (p1 &&& 31)) &&& 1) = 0 then ((KR (p1 + 1, p2, bc_h, so_h, tr_h, be_h)).bind (fun r19 => some (r19.1, r19.2.1, r19.2.2.1, r19.2.2.2))) else (lp (bX0_hangFrom_58 KR few_h ld_h men_n st_n wr_n p1 p2) FU (0, bc_h, so_h, tr_h, be_h))) else (gcp 0 0 6 6 6 (some (p2, so_h, tr_h, va_cpy tr_h be_h (Int32.toNatClampNeg 0) (Int32.toNatClampNeg 0) (Int32.toNatClampNeg 6))))) else (some (bc_h, so_h, tr_h, be_h))
theorem in_X0_hangFrom_X0 : ∀ w ∈ wsX00, w ∈ wsX0_hangFrom := by decide +kernel
theorem in_X0_hangFrom_X1 : ∀ w ∈ wsX10, w ∈ wsX0_hangFrom := by decide +kernel
set_option maxHeartbeats 4000000 in
set_option maxRecDepth 100000 in
theorem ct_X0_hangFrom {l : Launch} {D : va_G} {g : Nat → ClassId} {qa : Nat → Nat} : ∀ (nd : Nat) {E0 : Nat → va_E} {p1 : Int32} {p2 : Int32} {worn_h : Int32} {few_h : Int32} {bc_h : Int32} {ld_h : Nat → Nat → Int32} {so_h : Nat → Int32} {tr_h : Nat → Int32} {be_h : Nat → Int32} {wy_h : Nat → Int32} {men_n : Int32} {md_n : Int32} {day_n : Int32} {drw_n : Int32} {bu_n : Nat → Int32} {st_n : Nat → Int32} {ki_n : Nat → Int32} {we_n : Nat → Int32} {wo_n : Nat → Int32} {wr_n : Nat → Int32} (hG_h : Ha g qa E0 44 worn_h few_h bc_h ld_h so_h tr_h be_h wy_h) (hG_n : Mu g qa E0 1 men_n md_n day_n drw_n bu_n st_n ki_n we_n wo_n wr_n) {R : (Int32 × (Nat → Int32) × (Nat → Int32) × (Nat → Int32))} (_ : lp (rX0_hangFrom worn_h few_h ld_h men_n st_n wr_n) nd (p1, p2, bc_h, so_h, tr_h, be_h) = some R), MV l yX0_hangFrom wsX0_hangFrom (nd + 3) D g qa E0 [.ref (qa 44), .int p1, .int p2] (fun E => Ha g qa E 44 worn_h few_h R.1 ld_h R.2.1 R.2.2.1 R.2.2.2 wy_h ∧ ∀ j, (j < 44 ∨ 55 ≤ j) → E j = E0 j) := by
  intro nd
  induction nd with
  | zero =>
    intro E0 p1 p2 worn_h few_h bc_h ld_h so_h tr_h be_h wy_h men_n md_n day_n drw_n bu_n st_n ki_n we_n wo_n wr_n hG_h hG_n R hf
    exact absurd hf (by intro h; cases h)
  | succ nd ihd =>
    intro E0 p1 p2 worn_h few_h bc_h ld_h so_h tr_h be_h wy_h men_n md_n day_n drw_n bu_n st_n ki_n we_n wo_n wr_n hG_h hG_n R hf
    have hf : rX0_hangFrom worn_h few_h ld_h men_n st_n wr_n (lp (rX0_hangFrom worn_h few_h ld_h men_n st_n wr_n) nd) (p1, p2, bc_h, so_h, tr_h, be_h) = some R := hf
    rw [rX0_hangFrom] at hf
    refine MV.mk (by decide) rfl (Nat.le_of_ble_eq_true rfl) ?_
    intro p e s m args below meth c ls Q X hret hP hS hl
    have hl : lv_has ls 5 [(0, .ref (qa 44)), (1, .int p1), (2, .int p2)] := hl
    have hfr : ∀ j, (j < 44 ∨ 55 ≤ j) → E0 j = E0 j := fun _ _ => rfl
    refine lv_iload_n X.1 X.2.1 dX0_hangFrom_0 rfl (lv_at hl 2 rfl) ?_
    refine lv_aload_n X.1 X.2.1 dX0_hangFrom_1 rfl (lv_at hl 0 rfl) ?_
    refine x_get X hP hG_h.1 (by omega) rfl in_X0_hangFrom_X0 8 (by decide) (by decide +kernel) rfl rfl dX0_hangFrom_2 ?_
    refine lv_icmp_lt (tgt := 9) X.1 X.2.1 dX0_hangFrom_5 (by decide) (fun c1 => ?_) (fun c1 => ?_)
    · have hf := ifp hf c1
      refine lv_iload_n X.1 X.2.1 dX0_hangFrom_9 rfl (lv_at hl 1 rfl) ?_
      refine lv_bipush (v := 6) X.1 X.2.1 dX0_hangFrom_10 (by decide) ?_
      refine lv_icmp_lt (tgt := 36) X.1 X.2.1 dX0_hangFrom_12 (by decide) (fun c2 => ?_) (fun c2 => ?_)
      · have hf := ifp hf c2
        refine lv_aload_n X.1 X.2.1 dX0_hangFrom_36 rfl (lv_at hl 0 rfl) ?_
        refine x_get X hP hG_h.1 (by omega) rfl in_X0_hangFrom_X0 2 (by decide) (by decide +kernel) rfl rfl dX0_hangFrom_37 ?_
        refine lv_iload_n X.1 X.2.1 dX0_hangFrom_40 rfl (lv_at hl 1 rfl) ?_
        refine lv_ishr X.1 X.2.1 dX0_hangFrom_41 ?_
        refine lv_iconst (v := 1) X.1 X.2.1 dX0_hangFrom_42 (by decide) ?_
        refine lv_iand X.1 X.2.1 dX0_hangFrom_43 ?_
        refine lv_if_ne (tgt := 56) X.1 X.2.1 dX0_hangFrom_44 (by decide) (fun c3 => ?_) (fun c3 => ?_)
        · have hf := ifn hf c3
          refine lv_iconst (v := 0) X.1 X.2.1 dX0_hangFrom_56 (by decide) ?_
          refine lv_istore_n (lv' := [(3, .int 0), (0, .ref (qa 44)), (1, .int p1), (2, .int p2)]) X.1 X.2.1 dX0_hangFrom_57 rfl hl (by decide) rfl (fun ls hl => ?_)
          have lp4 : ∀ (n4 : Nat) (v3_4 : Int32) (bc_h_4 : Int32) (so_h_4 : Nat → Int32) (tr_h_4 : Nat → Int32) (be_h_4 : Nat → Int32) (E : Nat → va_E) (H : Heap) (locs : List Loc) (ls : Array Slot), lp (bX0_hangFrom_58 (lp (rX0_hangFrom worn_h few_h ld_h men_n st_n wr_n) nd) few_h ld_h men_n st_n wr_n p1 p2) n4 (v3_4, bc_h_4, so_h_4, tr_h_4, be_h_4) = some R → va_P D vwCl (WD qa E) H → va_S (gA qa s.heap.size) s.heap H locs → Ha g qa E 44 worn_h few_h bc_h_4 ld_h so_h_4 tr_h_4 be_h_4 wy_h → Mu g qa E 1 men_n md_n day_n drw_n bu_n st_n ki_n we_n wo_n wr_n → (∀ j, (j < 44 ∨ 55 ≤ j) → E j = E0 j) → lv_has ls 5 [(0, .ref (qa 44)), (1, .int p1), (2, .int p2), (3, .int v3_4)] → W p l e (rmf (nd + 1 + 3)) s m args below meth c H locs 0 0 Q (F0 m 58 ls []) := by
            intro n4
            induction n4 with
            | zero =>
              intro v3_4 bc_h_4 so_h_4 tr_h_4 be_h_4 E H locs ls hf
              exact absurd hf (by intro h; cases h)
            | succ n4 ih4 =>
              intro v3_4 bc_h_4 so_h_4 tr_h_4 be_h_4 E H locs ls hf hP hS hG_h hG_n hfr hl
              have hf : bX0_hangFrom_58 (lp (rX0_hangFrom worn_h few_h ld_h men_n st_n wr_n) nd) few_h ld_h men_n st_n wr_n p1 p2 (lp (bX0_hangFrom_58 (lp (rX0_hangFrom worn_h few_h ld_h men_n st_n wr_n) nd) few_h ld_h men_n st_n wr_n p1 p2) n4) (v3_4, bc_h_4, so_h_4, tr_h_4, be_h_4) = some R := hf
              rw [bX0_hangFrom_58] at hf
              refine lv_iload_n X.1 X.2.1 dX0_hangFrom_58 rfl (lv_at hl 3 rfl) ?_
              refine lv_aload_n X.1 X.2.1 dX0_hangFrom_59 rfl (lv_at hl 0 rfl) ?_
              refine x_get X hP hG_h.1 (by omega) rfl in_X0_hangFrom_X0 0 (by decide) (by decide +kernel) rfl rfl dX0_hangFrom_60 ?_
              refine x_get X hP hG_n.1 (by omega) rfl in_X0_hangFrom_X1 0 (by decide) (by decide +kernel) rfl rfl dX0_hangFrom_63 ?_
              refine lv_icmp_ge (tgt := 142) X.1 X.2.1 dX0_hangFrom_66 (by decide) (fun c5 => ?_) (fun c5 => ?_)
              · have hf := ifp hf c5
                obtain rfl := Option.some.inj hf
                exact hret _ _ _ _ _ dX0_hangFrom_142 (⟨hG_h, hfr⟩) hP hS
              · have hf := ifn hf c5
                refine lv_aload_n X.1 X.2.1 dX0_hangFrom_69 rfl (lv_at hl 0 rfl) ?_
                refine x_get X hP hG_h.1 (by omega) rfl in_X0_hangFrom_X0 3 (by decide) (by decide +kernel) rfl rfl dX0_hangFrom_70 ?_
                refine lv_iload_n X.1 X.2.1 dX0_hangFrom_73 rfl (lv_at hl 3 rfl) ?_
                obtain ⟨hi6, hf⟩ := gin_of hf
                refine x_iald X hP hG_h.2.2.2.1 (by omega) hi6 dX0_hangFrom_74 ?_
                obtain ⟨x7, ex7, hf⟩ := nm_of hf
                refine lv_top_as ex7 ?_
                refine lv_istore (lv' := [(4, .int x7), (0, .ref (qa 44)), (1, .int p1), (2, .int p2), (3, .int v3_4)]) X.1 X.2.1 dX0_hangFrom_75 hl (by decide) rfl (fun ls hl => ?_)
                refine lv_aload_n X.1 X.2.1 dX0_hangFrom_77 rfl (lv_at hl 1 rfl) ?_
                refine x_get X hP hG_h.1 (by omega) rfl in_X0_hangFrom_X0 3 (by decide) (by decide +kernel) rfl rfl dX0_hangFrom_78 ?_
                refine lv_iload_n X.1 X.2.1 dX0_hangFrom_81 rfl (lv_at hl 4 rfl) ?_
                refine lv_iload X.1 X.2.1 dX0_hangFrom_82 (lv_at hl 0 rfl) ?_
                refine lv_iconst (v := 1) X.1 X.2.1 dX0_hangFrom_84 (by decide) ?_
                refine lv_iload_n X.1 X.2.1 dX0_hangFrom_85 rfl (lv_at hl 2 rfl) ?_
                refine lv_ishl X.1 X.2.1 dX0_hangFrom_86 ?_
                refine lv_ior X.1 X.2.1 dX0_hangFrom_87 ?_
                obtain ⟨hi8, hf⟩ := gin_of hf
                refine x_iast X hP hS hG_h.2.2.2.1 (by omega) hi8 dX0_hangFrom_88 (fun E H locs h1 hk hP hS => ?_)
                have hG_h := Ha_set_3 hG_h h1 hk
                have hG_n := Mu_kept hG_n (fun j h8 h9 => hk j (by omega))
                have hfr : ∀ j, (j < 44 ∨ 55 ≤ j) → E j = E0 j := fun j o0 => (hk j (by omega)).trans (hfr j o0)
                refine lv_aload_n X.1 X.2.1 dX0_hangFrom_89 rfl (lv_at hl 1 rfl) ?_
                refine x_get X hP hG_h.1 (by omega) rfl in_X0_hangFrom_X0 4 (by decide) (by decide +kernel) rfl rfl dX0_hangFrom_90 ?_
                refine lv_iload_n X.1 X.2.1 dX0_hangFrom_93 rfl (lv_at hl 2 rfl) ?_
                refine lv_iload_n X.1 X.2.1 dX0_hangFrom_94 rfl (lv_at hl 4 rfl) ?_
                obtain ⟨hi9, hf⟩ := gin_of hf
                refine x_iast X hP hS hG_h.2.2.2.2.1 (by omega) hi9 dX0_hangFrom_95 (fun E H locs h1 hk hP hS => ?_)
                have hG_h := Ha_set_4 hG_h h1 hk
                have hG_n := Mu_kept hG_n (fun j h8 h9 => hk j (by omega))
                have hfr : ∀ j, (j < 44 ∨ 55 ≤ j) → E j = E0 j := fun j o0 => (hk j (by omega)).trans (hfr j o0)
                refine lv_aload_n X.1 X.2.1 dX0_hangFrom_96 rfl (lv_at hl 1 rfl) ?_
                refine lv_iload_n X.1 X.2.1 dX0_hangFrom_97 rfl (lv_at hl 2 rfl) ?_
                refine lv_iconst (v := 1) X.1 X.2.1 dX0_hangFrom_98 (by decide) ?_
                refine lv_iadd X.1 X.2.1 dX0_hangFrom_99 ?_
                refine lv_aload_n X.1 X.2.1 dX0_hangFrom_100 rfl (lv_at hl 1 rfl) ?_
                refine x_get X hP hG_h.1 (by omega) rfl in_X0_hangFrom_X0 7 (by decide) (by decide +kernel) rfl rfl dX0_hangFrom_101 ?_
                refine lv_if_eq (tgt := 119) X.1 X.2.1 dX0_hangFrom_104 (by decide) (fun c10 => ?_) (fun c10 => ?_)
                · have hf := ifp hf c10
                  refine lv_aload_n X.1 X.2.1 dX0_hangFrom_119 rfl (lv_at hl 1 rfl) ?_
                  refine lv_iload_n X.1 X.2.1 dX0_hangFrom_120 rfl (lv_at hl 3 rfl) ?_
                  refine lv_iload_n X.1 X.2.1 dX0_hangFrom_121 rfl (lv_at hl 4 rfl) ?_
                  obtain ⟨r11, hr11, hf⟩ := bd_of hf
                  refine x_rdVi X hP hS hG_h.1 (by omega) rfl (n := 2) (As := [.int p2, .int v3_4]) (ct_X0_costOfEven hG_h hr11) gX0_hangFrom_X0_costOfEven rfl (by decide +kernel) ⟨by simp only [rmf]; omega, by simp only [rmf]; omega⟩ rfl hl.1 rfl (Nat.le_of_ble_eq_true rfl) dX0_hangFrom_122 (fun H locs hP hS => ?_)
                  obtain ⟨r12, hr12, hf⟩ := bd_of hf
                  refine x_callVv X hP hS hG_h.1 (by omega) rfl (n := 2) (As := [.int (p1 + 1), .int r11]) (ihd hG_h hG_n hr12) gX0_hangFrom_X0_hangFrom rfl (by decide +kernel) ⟨by simp only [rmf]; omega, by simp only [rmf]; omega⟩ rfl hl.1 rfl (Nat.le_of_ble_eq_true rfl) dX0_hangFrom_125 (fun E H locs hp hP hS => ?_)
                  obtain ⟨hG_h, hk⟩ := hp
                  have hG_n := Mu_kept hG_n (fun j h8 h9 => hk j (by omega))
                  have hfr : ∀ j, (j < 44 ∨ 55 ≤ j) → E j = E0 j := fun j o0 => (hk j (by omega)).trans (hfr j o0)
                  refine lv_aload_n X.1 X.2.1 dX0_hangFrom_128 rfl (lv_at hl 1 rfl) ?_
                  refine x_get X hP hG_h.1 (by omega) rfl in_X0_hangFrom_X0 3 (by decide) (by decide +kernel) rfl rfl dX0_hangFrom_129 ?_
                  refine lv_iload_n X.1 X.2.1 dX0_hangFrom_132 rfl (lv_at hl 4 rfl) ?_
                  refine lv_iload X.1 X.2.1 dX0_hangFrom_133 (lv_at hl 0 rfl) ?_
                  obtain ⟨hi13, hf⟩ := gin_of hf
                  refine x_iast X hP hS hG_h.2.2.2.1 (by omega) hi13 dX0_hangFrom_135 (fun E H locs h1 hk hP hS => ?_)
                  have hG_h := Ha_set_3 hG_h h1 hk
                  have hG_n := Mu_kept hG_n (fun j h8 h9 => hk j (by omega))
                  have hfr : ∀ j, (j < 44 ∨ 55 ≤ j) → E j = E0 j := fun j o0 => (hk j (by omega)).trans (hfr j o0)
                  obtain ⟨x14, ex14, hf⟩ := nm_of hf
                  refine lv_iinc (v := x14) (lv' := [(3, .int x14), (4, .int x7), (0, .ref (qa 44)), (1, .int p1), (2, .int p2)]) X.1 X.2.1 dX0_hangFrom_136 hl (k := 4) rfl (by rw [ex14]; rfl) (by decide) rfl (fun ls hl => ?_)
                  refine lv_goto (tgt := 58) X.1 X.2.1 dX0_hangFrom_139 (by decide) ?_
                  exact ih4 x14 r12.1 (upd r12.2.1 (Int32.toNatClampNeg v3_4) x7) r12.2.2.1 r12.2.2.2 _ _ _ _ hf hP hS hG_h hG_n hfr (lv_sub hl [2, 3, 4, 0] rfl)
                · have hf := ifn hf c10
                  refine lv_aload_n X.1 X.2.1 dX0_hangFrom_107 rfl (lv_at hl 1 rfl) ?_
                  refine lv_iload_n X.1 X.2.1 dX0_hangFrom_108 rfl (lv_at hl 3 rfl) ?_
                  refine lv_iload_n X.1 X.2.1 dX0_hangFrom_109 rfl (lv_at hl 4 rfl) ?_
                  refine lv_iload X.1 X.2.1 dX0_hangFrom_110 (lv_at hl 0 rfl) ?_
                  refine lv_iload_n X.1 X.2.1 dX0_hangFrom_112 rfl (lv_at hl 2 rfl) ?_
                  obtain ⟨r15, hr15, hf⟩ := bd_of hf
                  refine x_rdVi X hP hS hG_h.1 (by omega) rfl (n := 4) (As := [.int p2, .int v3_4, .int x7, .int p1]) (ct_X0_costOfFew hG_h hG_n hr15) gX0_hangFrom_X0_costOfFew rfl (by decide +kernel) ⟨by simp only [rmf]; omega, by simp only [rmf]; omega⟩ rfl hl.1 rfl (Nat.le_of_ble_eq_true rfl) dX0_hangFrom_113 (fun H locs hP hS => ?_)
                  refine lv_goto (tgt := 125) X.1 X.2.1 dX0_hangFrom_116 (by decide) ?_
                  obtain ⟨r16, hr16, hf⟩ := bd_of hf
                  refine x_callVv X hP hS hG_h.1 (by omega) rfl (n := 2) (As := [.int (p1 + 1), .int r15]) (ihd hG_h hG_n hr16) gX0_hangFrom_X0_hangFrom rfl (by decide +kernel) ⟨by simp only [rmf]; omega, by simp only [rmf]; omega⟩ rfl hl.1 rfl (Nat.le_of_ble_eq_true rfl) dX0_hangFrom_125 (fun E H locs hp hP hS => ?_)
                  obtain ⟨hG_h, hk⟩ := hp
                  have hG_n := Mu_kept hG_n (fun j h8 h9 => hk j (by omega))
                  have hfr : ∀ j, (j < 44 ∨ 55 ≤ j) → E j = E0 j := fun j o0 => (hk j (by omega)).trans (hfr j o0)
                  refine lv_aload_n X.1 X.2.1 dX0_hangFrom_128 rfl (lv_at hl 1 rfl) ?_
                  refine x_get X hP hG_h.1 (by omega) rfl in_X0_hangFrom_X0 3 (by decide) (by decide +kernel) rfl rfl dX0_hangFrom_129 ?_
                  refine lv_iload_n X.1 X.2.1 dX0_hangFrom_132 rfl (lv_at hl 4 rfl) ?_
                  refine lv_iload X.1 X.2.1 dX0_hangFrom_133 (lv_at hl 0 rfl) ?_
                  obtain ⟨hi17, hf⟩ := gin_of hf
                  refine x_iast X hP hS hG_h.2.2.2.1 (by omega) hi17 dX0_hangFrom_135 (fun E H locs h1 hk hP hS => ?_)
                  have hG_h := Ha_set_3 hG_h h1 hk
                  have hG_n := Mu_kept hG_n (fun j h8 h9 => hk j (by omega))
                  have hfr : ∀ j, (j < 44 ∨ 55 ≤ j) → E j = E0 j := fun j o0 => (hk j (by omega)).trans (hfr j o0)
                  obtain ⟨x18, ex18, hf⟩ := nm_of hf
                  refine lv_iinc (v := x18) (lv' := [(3, .int x18), (4, .int x7), (0, .ref (qa 44)), (1, .int p1), (2, .int p2)]) X.1 X.2.1 dX0_hangFrom_136 hl (k := 4) rfl (by rw [ex18]; rfl) (by decide) rfl (fun ls hl => ?_)
                  refine lv_goto (tgt := 58) X.1 X.2.1 dX0_hangFrom_139 (by decide) ?_
                  exact ih4 x18 r16.1 (upd r16.2.1 (Int32.toNatClampNeg v3_4) x7) r16.2.2.1 r16.2.2.2 _ _ _ _ hf hP hS hG_h hG_n hfr (lv_sub hl [2, 3, 4, 0] rfl)
          exact lp4 FU 0 bc_h so_h tr_h be_h _ _ _ _ hf hP hS hG_h hG_n hfr (lv_sub hl [1, 2, 3, 0] rfl)
        · have hf := ifp hf c3
          refine lv_aload_n X.1 X.2.1 dX0_hangFrom_47 rfl (lv_at hl 0 rfl) ?_
          refine lv_iload_n X.1 X.2.1 dX0_hangFrom_48 rfl (lv_at hl 1 rfl) ?_
          refine lv_iconst (v := 1) X.1 X.2.1 dX0_hangFrom_49 (by decide) ?_
          refine lv_iadd X.1 X.2.1 dX0_hangFrom_50 ?_
          refine lv_iload_n X.1 X.2.1 dX0_hangFrom_51 rfl (lv_at hl 2 rfl) ?_
          obtain ⟨r19, hr19, hf⟩ := bd_of hf
          refine x_callVv X hP hS hG_h.1 (by omega) rfl (n := 2) (As := [.int (p1 + 1), .int p2]) (ihd hG_h hG_n hr19) gX0_hangFrom_X0_hangFrom rfl (by decide +kernel) ⟨by simp only [rmf]; omega, by simp only [rmf]; omega⟩ rfl hl.1 rfl (Nat.le_of_ble_eq_true rfl) dX0_hangFrom_52 (fun E H locs hp hP hS => ?_)
          obtain ⟨hG_h, hk⟩ := hp
          have hG_n := Mu_kept hG_n (fun j h8 h9 => hk j (by omega))
          have hfr : ∀ j, (j < 44 ∨ 55 ≤ j) → E j = E0 j := fun j o0 => (hk j (by omega)).trans (hfr j o0)
          obtain rfl := Option.some.inj hf
          exact hret _ _ _ _ _ dX0_hangFrom_55 (⟨hG_h, hfr⟩) hP hS
      · have hf := ifn hf c2
        refine lv_aload_n X.1 X.2.1 dX0_hangFrom_15 rfl (lv_at hl 0 rfl) ?_
        refine lv_iload_n X.1 X.2.1 dX0_hangFrom_16 rfl (lv_at hl 2 rfl) ?_
        refine x_put (ty := .int) X hP hS hG_h.1 (by omega) rfl in_X0_hangFrom_X0 tyX0 tyX0_ok nmX0 8 (by decide) (by decide +kernel) rfl rfl (by decide +kernel) rfl rfl (Nat.le_of_ble_eq_true rfl) dX0_hangFrom_17 (fun E H locs h1 hk hP hS => ?_)
        have hG_h := Ha_set_0 hG_h h1 hk
        have hG_n := Mu_kept hG_n (fun j h8 h9 => hk j (by omega))
        have hfr : ∀ j, (j < 44 ∨ 55 ≤ j) → E j = E0 j := fun j o0 => (hk j (by omega)).trans (hfr j o0)
        refine lv_aload_n X.1 X.2.1 dX0_hangFrom_20 rfl (lv_at hl 0 rfl) ?_
        refine x_get X hP hG_h.1 (by omega) rfl in_X0_hangFrom_X0 4 (by decide) (by decide +kernel) rfl rfl dX0_hangFrom_21 ?_
        refine lv_iconst (v := 0) X.1 X.2.1 dX0_hangFrom_24 (by decide) ?_
        refine lv_aload_n X.1 X.2.1 dX0_hangFrom_25 rfl (lv_at hl 0 rfl) ?_
        refine x_get X hP hG_h.1 (by omega) rfl in_X0_hangFrom_X0 5 (by decide) (by decide +kernel) rfl rfl dX0_hangFrom_26 ?_
        refine lv_iconst (v := 0) X.1 X.2.1 dX0_hangFrom_29 (by decide) ?_
        refine lv_bipush (v := 6) X.1 X.2.1 dX0_hangFrom_30 (by decide) ?_
        obtain ⟨hy20, hf⟩ := gcp_of hf
        refine x_copyi X hP hS hG_h.2.2.2.2.1 (by omega) hG_h.2.2.2.2.2.1 (by omega) (index := 71) (by decide +kernel) (by decide +kernel) (by decide +kernel) (by decide +kernel) hl.1 hy20.1 hy20.2.1 hy20.2.2.1 hy20.2.2.2.1 hy20.2.2.2.2 (by simp only [rmf]; omega) (Nat.le_trans (m := 300) (Nat.le_of_ble_eq_true rfl) (by simp only [rmf]; omega)) dX0_hangFrom_32 (fun E H locs h1 hk hP hS => ?_)
        have hG_h := Ha_set_5 hG_h h1 hk
        have hG_n := Mu_kept hG_n (fun j h8 h9 => hk j (by omega))
        have hfr : ∀ j, (j < 44 ∨ 55 ≤ j) → E j = E0 j := fun j o0 => (hk j (by omega)).trans (hfr j o0)
        obtain rfl := Option.some.inj hf
        exact hret _ _ _ _ _ dX0_hangFrom_35 (⟨hG_h, hfr⟩) hP hS
    · have hf := ifn hf c1
      obtain rfl := Option.some.inj hf
      exact hret _ _ _ _ _ dX0_hangFrom_8 (⟨hG_h, hfr⟩) hP hS
def bX0_find_26 (few_h : Int32) (be_h : Nat → Int32) (men_n : Int32) (st_n : Nat → Int32) (wr_n : Nat → Int32) (r1 : (Int32 × (Nat → Nat → Int32))) (so_h_2 : Nat → Int32) (K4 : ((Int32 × (Nat → Int32))) → Option (Int32 × Int32 × (Nat → Nat → Int32) × (Nat → Int32) × (Nat → Int32) × (Nat → Int32))) : ((Int32 × (Nat → Int32))) → Option (Int32 × Int32 × (Nat → Nat → Int32) × (Nat → Int32) × (Nat → Int32) × (Nat → Int32))
  | (v1_4, tr_h_4) => if 6 ≤ v1_4 then ((lp (rX0_hangFrom r1.1 few_h r1.2 men_n st_n wr_n) 8 (0, 0, 1000000, so_h_2, tr_h_4, be_h)).bind (fun r6 => some (r1.1, r6.1, r1.2, r6.2.1, r6.2.2.1, r6.2.2.2))) else (gin v1_4 6 (nm (v1_4 + 1) (fun x8 => K4 (x8, upd tr_h_4 (Int32.toNatClampNeg v1_4) (-4)))))
def bX0_find_6 (few_h : Int32) (tr_h : Nat → Int32) (be_h : Nat → Int32) (men_n : Int32) (st_n : Nat → Int32) (wr_n : Nat → Int32) (r1 : (Int32 × (Nat → Nat → Int32))) (K2 : ((Int32 × (Nat → Int32))) → Option (Int32 × Int32 × (Nat → Nat → Int32) × (Nat → Int32) × (Nat → Int32) × (Nat → Int32))) : ((Int32 × (Nat → Int32))) → Option (Int32 × Int32 × (Nat → Nat → Int32) × (Nat → Int32) × (Nat → Int32) × (Nat → Int32))
  | (v1_2, so_h_2) => if 5 ≤ v1_2 then (lp (bX0_find_26 few_h be_h men_n st_n wr_n r1 so_h_2) FU (0, tr_h)) else (gin v1_2 5 (nm (v1_2 + 1) (fun x10 => K2 (x10, upd so_h_2 (Int32.toNatClampNeg v1_2) 0))))
def fX0_find   (few_h : Int32) (ld_h : Nat → Nat → Int32) (so_h : Nat → Int32) (tr_h : Nat → Int32) (be_h : Nat → Int32) (men_n : Int32) (md_n : Int32) (day_n : Int32) (st_n : Nat → Int32) (ki_n : Nat → Int32) (we_n : Nat → Int32) (wo_n : Nat → Int32) (wr_n : Nat → Int32) : Option (Int32 × Int32 × (Nat → Nat → Int32) × (Nat → Int32) × (Nat → Int32) × (Nat → Int32)) := (fX0_prepare ld_h men_n md_n day_n ki_n we_n wo_n wr_n).bind (fun r1 => lp (bX0_find_6 few_h tr_h be_h men_n st_n wr_n r1) FU (0, so_h))
theorem in_X0_find_X0 : ∀ w ∈ wsX00, w ∈ wsX0_find := by decide +kernel
theorem in_X0_find_X1 : ∀ w ∈ wsX10, w ∈ wsX0_find := by decide +kernel
set_option maxHeartbeats 4000000 in
set_option maxRecDepth 100000 in
theorem ct_X0_find {l : Launch} {D : va_G} {g : Nat → ClassId} {qa : Nat → Nat} {E0 : Nat → va_E} {worn_h : Int32} {few_h : Int32} {bc_h : Int32} {ld_h : Nat → Nat → Int32} {so_h : Nat → Int32} {tr_h : Nat → Int32} {be_h : Nat → Int32} {wy_h : Nat → Int32} {men_n : Int32} {md_n : Int32} {day_n : Int32} {drw_n : Int32} {bu_n : Nat → Int32} {st_n : Nat → Int32} {ki_n : Nat → Int32} {we_n : Nat → Int32} {wo_n : Nat → Int32} {wr_n : Nat → Int32} (hG_h : Ha g qa E0 44 worn_h few_h bc_h ld_h so_h tr_h be_h wy_h) (hG_n : Mu g qa E0 1 men_n md_n day_n drw_n bu_n st_n ki_n we_n wo_n wr_n) {R : (Int32 × Int32 × (Nat → Nat → Int32) × (Nat → Int32) × (Nat → Int32) × (Nat → Int32))} (hf : fX0_find few_h ld_h so_h tr_h be_h men_n md_n day_n st_n ki_n we_n wo_n wr_n = some R) : MV l yX0_find wsX0_find 12 D g qa E0 [.ref (qa 44)] (fun E => Ha g qa E 44 R.1 few_h R.2.1 R.2.2.1 R.2.2.2.1 R.2.2.2.2.1 R.2.2.2.2.2 wy_h ∧ ∀ j, (j < 44 ∨ 55 ≤ j) → E j = E0 j) := by
  refine MV.mk (by decide) rfl (Nat.le_of_ble_eq_true rfl) ?_
  intro p e s m args below meth c ls Q X hret hP hS hl
  have hl : lv_has ls 2 [(0, .ref (qa 44))] := hl
  have hfr : ∀ j, (j < 44 ∨ 55 ≤ j) → E0 j = E0 j := fun _ _ => rfl
  rw [fX0_find] at hf
  refine lv_aload_n X.1 X.2.1 dX0_find_0 rfl (lv_at hl 0 rfl) ?_
  obtain ⟨r1, hr1, hf⟩ := bd_of hf
  refine x_callVv X hP hS hG_h.1 (by omega) rfl (n := 0) (As := []) (ct_X0_prepare hG_h hG_n hr1) gX0_find_X0_prepare rfl (by decide +kernel) ⟨by decide, by decide⟩ rfl hl.1 rfl (Nat.le_of_ble_eq_true rfl) dX0_find_1 (fun E H locs hp hP hS => ?_)
  obtain ⟨hW_h, hk⟩ := hp
  have hG_h := hW_h
  have hG_n := Mu_kept hG_n (fun j h8 h9 => hk j (by omega))
  have hfr : ∀ j, (j < 44 ∨ 55 ≤ j) → E j = E0 j := fun j o0 => (hk j (by omega)).trans (hfr j o0)
  refine lv_iconst (v := 0) X.1 X.2.1 dX0_find_4 (by decide) ?_
  refine lv_istore_n (lv' := [(1, .int 0), (0, .ref (qa 44))]) X.1 X.2.1 dX0_find_5 rfl hl (by decide) rfl (fun ls hl => ?_)
  have lp2 : ∀ (n2 : Nat) (v1_2 : Int32) (so_h_2 : Nat → Int32) (E : Nat → va_E) (H : Heap) (locs : List Loc) (ls : Array Slot), lp (bX0_find_6 few_h tr_h be_h men_n st_n wr_n r1) n2 (v1_2, so_h_2) = some R → va_P D vwCl (WD qa E) H → va_S (gA qa s.heap.size) s.heap H locs → Ha g qa E 44 r1.1 few_h bc_h r1.2 so_h_2 tr_h be_h wy_h → Mu g qa E 1 men_n md_n day_n drw_n bu_n st_n ki_n we_n wo_n wr_n → (∀ j, (j < 44 ∨ 55 ≤ j) → E j = E0 j) → lv_has ls 2 [(0, .ref (qa 44)), (1, .int v1_2)] → W p l e (rmf 12) s m args below meth c H locs 0 0 Q (F0 m 6 ls []) := by
    intro n2
    induction n2 with
    | zero =>
      intro v1_2 so_h_2 E H locs ls hf
      exact absurd hf (by intro h; cases h)
    | succ n2 ih2 =>
      intro v1_2 so_h_2 E H locs ls hf hP hS hG_h hG_n hfr hl
      have hf : bX0_find_6 few_h tr_h be_h men_n st_n wr_n r1 (lp (bX0_find_6 few_h tr_h be_h men_n st_n wr_n r1) n2) (v1_2, so_h_2) = some R := hf
      rw [bX0_find_6] at hf
      refine lv_iload_n X.1 X.2.1 dX0_find_6 rfl (lv_at hl 1 rfl) ?_
      refine lv_iconst (v := 5) X.1 X.2.1 dX0_find_7 (by decide) ?_
      refine lv_icmp_ge (tgt := 24) X.1 X.2.1 dX0_find_8 (by decide) (fun c3 => ?_) (fun c3 => ?_)
      · have hf := ifp hf c3
        refine lv_iconst (v := 0) X.1 X.2.1 dX0_find_24 (by decide) ?_
        refine lv_istore_n (lv' := [(1, .int 0), (0, .ref (qa 44))]) X.1 X.2.1 dX0_find_25 rfl hl (by decide) rfl (fun ls hl => ?_)
        have lp4 : ∀ (n4 : Nat) (v1_4 : Int32) (tr_h_4 : Nat → Int32) (E : Nat → va_E) (H : Heap) (locs : List Loc) (ls : Array Slot), lp (bX0_find_26 few_h be_h men_n st_n wr_n r1 so_h_2) n4 (v1_4, tr_h_4) = some R → va_P D vwCl (WD qa E) H → va_S (gA qa s.heap.size) s.heap H locs → Ha g qa E 44 r1.1 few_h bc_h r1.2 so_h_2 tr_h_4 be_h wy_h → Mu g qa E 1 men_n md_n day_n drw_n bu_n st_n ki_n we_n wo_n wr_n → (∀ j, (j < 44 ∨ 55 ≤ j) → E j = E0 j) → lv_has ls 2 [(0, .ref (qa 44)), (1, .int v1_4)] → W p l e (rmf 12) s m args below meth c H locs 0 0 Q (F0 m 26 ls []) := by
          intro n4
          induction n4 with
          | zero =>
            intro v1_4 tr_h_4 E H locs ls hf
            exact absurd hf (by intro h; cases h)
          | succ n4 ih4 =>
            intro v1_4 tr_h_4 E H locs ls hf hP hS hG_h hG_n hfr hl
            have hf : bX0_find_26 few_h be_h men_n st_n wr_n r1 so_h_2 (lp (bX0_find_26 few_h be_h men_n st_n wr_n r1 so_h_2) n4) (v1_4, tr_h_4) = some R := hf
            rw [bX0_find_26] at hf
            refine lv_iload_n X.1 X.2.1 dX0_find_26 rfl (lv_at hl 1 rfl) ?_
            refine lv_bipush (v := 6) X.1 X.2.1 dX0_find_27 (by decide) ?_
            refine lv_icmp_ge (tgt := 46) X.1 X.2.1 dX0_find_29 (by decide) (fun c5 => ?_) (fun c5 => ?_)
            · have hf := ifp hf c5
              refine lv_aload_n X.1 X.2.1 dX0_find_46 rfl (lv_at hl 0 rfl) ?_
              refine lv_ldc (v := 1000000) X.1 X.2.1 X.2.2.2.1 (X.2.2.2.2.1 (.constant RX0 66 (1000000)) (by decide +kernel)) dX0_find_47 ?_
              refine x_put (ty := .int) X hP hS hG_h.1 (by omega) rfl in_X0_find_X0 tyX0 tyX0_ok nmX0 8 (by decide) (by decide +kernel) rfl rfl (by decide +kernel) rfl rfl (Nat.le_of_ble_eq_true rfl) dX0_find_49 (fun E H locs h1 hk hP hS => ?_)
              have hG_h := Ha_set_0 hG_h h1 hk
              have hG_n := Mu_kept hG_n (fun j h8 h9 => hk j (by omega))
              have hfr : ∀ j, (j < 44 ∨ 55 ≤ j) → E j = E0 j := fun j o0 => (hk j (by omega)).trans (hfr j o0)
              refine lv_aload_n X.1 X.2.1 dX0_find_52 rfl (lv_at hl 0 rfl) ?_
              refine lv_iconst (v := 0) X.1 X.2.1 dX0_find_53 (by decide) ?_
              refine lv_iconst (v := 0) X.1 X.2.1 dX0_find_54 (by decide) ?_
              obtain ⟨r6, hr6, hf⟩ := bd_of hf
              refine x_callVv X hP hS hG_h.1 (by omega) rfl (n := 2) (As := [.int 0, .int 0]) (ct_X0_hangFrom 8 hG_h hG_n hr6) gX0_find_X0_hangFrom rfl (by decide +kernel) ⟨by decide, by decide⟩ rfl hl.1 rfl (Nat.le_of_ble_eq_true rfl) dX0_find_55 (fun E H locs hp hP hS => ?_)
              obtain ⟨hW_h, hk⟩ := hp
              have hG_h := hW_h
              have hG_n := Mu_kept hG_n (fun j h8 h9 => hk j (by omega))
              have hfr : ∀ j, (j < 44 ∨ 55 ≤ j) → E j = E0 j := fun j o0 => (hk j (by omega)).trans (hfr j o0)
              obtain rfl := Option.some.inj hf
              exact hret _ _ _ _ _ dX0_find_58 (⟨hG_h, hfr⟩) hP hS
            · have hf := ifn hf c5
              refine lv_aload_n X.1 X.2.1 dX0_find_32 rfl (lv_at hl 0 rfl) ?_
              refine x_get X hP hG_h.1 (by omega) rfl in_X0_find_X0 4 (by decide) (by decide +kernel) rfl rfl dX0_find_33 ?_
              refine lv_iload_n X.1 X.2.1 dX0_find_36 rfl (lv_at hl 1 rfl) ?_
              refine lv_bipush (v := (-4)) X.1 X.2.1 dX0_find_37 (by decide) ?_
              obtain ⟨hi7, hf⟩ := gin_of hf
              refine x_iast X hP hS hG_h.2.2.2.2.1 (by omega) hi7 dX0_find_39 (fun E H locs h1 hk hP hS => ?_)
              have hG_h := Ha_set_4 hG_h h1 hk
              have hG_n := Mu_kept hG_n (fun j h8 h9 => hk j (by omega))
              have hfr : ∀ j, (j < 44 ∨ 55 ≤ j) → E j = E0 j := fun j o0 => (hk j (by omega)).trans (hfr j o0)
              obtain ⟨x8, ex8, hf⟩ := nm_of hf
              refine lv_iinc (v := x8) (lv' := [(1, .int x8), (0, .ref (qa 44))]) X.1 X.2.1 dX0_find_40 hl (k := 1) rfl (by rw [ex8]; rfl) (by decide) rfl (fun ls hl => ?_)
              refine lv_goto (tgt := 26) X.1 X.2.1 dX0_find_43 (by decide) ?_
              exact ih4 x8 (upd tr_h_4 (Int32.toNatClampNeg v1_4) (-4)) _ _ _ _ hf hP hS hG_h hG_n hfr (lv_sub hl [1, 0] rfl)
        exact lp4 FU 0 tr_h _ _ _ _ hf hP hS hG_h hG_n hfr (lv_sub hl [1, 0] rfl)
      · have hf := ifn hf c3
        refine lv_aload_n X.1 X.2.1 dX0_find_11 rfl (lv_at hl 0 rfl) ?_
        refine x_get X hP hG_h.1 (by omega) rfl in_X0_find_X0 3 (by decide) (by decide +kernel) rfl rfl dX0_find_12 ?_
        refine lv_iload_n X.1 X.2.1 dX0_find_15 rfl (lv_at hl 1 rfl) ?_
        refine lv_iconst (v := 0) X.1 X.2.1 dX0_find_16 (by decide) ?_
        obtain ⟨hi9, hf⟩ := gin_of hf
        refine x_iast X hP hS hG_h.2.2.2.1 (by omega) hi9 dX0_find_17 (fun E H locs h1 hk hP hS => ?_)
        have hG_h := Ha_set_3 hG_h h1 hk
        have hG_n := Mu_kept hG_n (fun j h8 h9 => hk j (by omega))
        have hfr : ∀ j, (j < 44 ∨ 55 ≤ j) → E j = E0 j := fun j o0 => (hk j (by omega)).trans (hfr j o0)
        obtain ⟨x10, ex10, hf⟩ := nm_of hf
        refine lv_iinc (v := x10) (lv' := [(1, .int x10), (0, .ref (qa 44))]) X.1 X.2.1 dX0_find_18 hl (k := 1) rfl (by rw [ex10]; rfl) (by decide) rfl (fun ls hl => ?_)
        refine lv_goto (tgt := 6) X.1 X.2.1 dX0_find_21 (by decide) ?_
        exact ih2 x10 (upd so_h_2 (Int32.toNatClampNeg v1_2) 0) _ _ _ _ hf hP hS hG_h hG_n hfr (lv_sub hl [1, 0] rfl)
  exact lp2 FU 0 so_h _ _ _ _ hf hP hS hG_h hG_n hfr (lv_sub hl [1, 0] rfl)
def fX0_findEven   (ld_h : Nat → Nat → Int32) (so_h : Nat → Int32) (tr_h : Nat → Int32) (be_h : Nat → Int32) (men_n : Int32) (md_n : Int32) (day_n : Int32) (st_n : Nat → Int32) (ki_n : Nat → Int32) (we_n : Nat → Int32) (wo_n : Nat → Int32) (wr_n : Nat → Int32) : Option (Int32 × Int32 × Int32 × (Nat → Nat → Int32) × (Nat → Int32) × (Nat → Int32) × (Nat → Int32)) := (fX0_find 0 ld_h so_h tr_h be_h men_n md_n day_n st_n ki_n we_n wo_n wr_n).bind (fun r1 => some (r1.1, 0, r1.2.1, r1.2.2.1, r1.2.2.2.1, r1.2.2.2.2.1, r1.2.2.2.2.2))
theorem in_X0_findEven_X0 : ∀ w ∈ wsX00, w ∈ wsX0_findEven := by decide +kernel
theorem in_X0_findEven_X1 : ∀ w ∈ wsX10, w ∈ wsX0_findEven := by decide +kernel
set_option maxHeartbeats 4000000 in
set_option maxRecDepth 100000 in
theorem ct_X0_findEven {l : Launch} {D : va_G} {g : Nat → ClassId} {qa : Nat → Nat} {E0 : Nat → va_E} {worn_h : Int32} {few_h : Int32} {bc_h : Int32} {ld_h : Nat → Nat → Int32} {so_h : Nat → Int32} {tr_h : Nat → Int32} {be_h : Nat → Int32} {wy_h : Nat → Int32} {men_n : Int32} {md_n : Int32} {day_n : Int32} {drw_n : Int32} {bu_n : Nat → Int32} {st_n : Nat → Int32} {ki_n : Nat → Int32} {we_n : Nat → Int32} {wo_n : Nat → Int32} {wr_n : Nat → Int32} (hG_h : Ha g qa E0 44 worn_h few_h bc_h ld_h so_h tr_h be_h wy_h) (hG_n : Mu g qa E0 1 men_n md_n day_n drw_n bu_n st_n ki_n we_n wo_n wr_n) {R : (Int32 × Int32 × Int32 × (Nat → Nat → Int32) × (Nat → Int32) × (Nat → Int32) × (Nat → Int32))} (hf : fX0_findEven ld_h so_h tr_h be_h men_n md_n day_n st_n ki_n we_n wo_n wr_n = some R) : MV l yX0_findEven wsX0_findEven 13 D g qa E0 [.ref (qa 44)] (fun E => Ha g qa E 44 R.1 R.2.1 R.2.2.1 R.2.2.2.1 R.2.2.2.2.1 R.2.2.2.2.2.1 R.2.2.2.2.2.2 wy_h ∧ ∀ j, (j < 44 ∨ 55 ≤ j) → E j = E0 j) := by
  refine MV.mk (by decide) rfl (Nat.le_of_ble_eq_true rfl) ?_
  intro p e s m args below meth c ls Q X hret hP hS hl
  have hl : lv_has ls 1 [(0, .ref (qa 44))] := hl
  have hfr : ∀ j, (j < 44 ∨ 55 ≤ j) → E0 j = E0 j := fun _ _ => rfl
  rw [fX0_findEven] at hf
  refine lv_aload_n X.1 X.2.1 dX0_findEven_0 rfl (lv_at hl 0 rfl) ?_
  refine lv_iconst (v := 0) X.1 X.2.1 dX0_findEven_1 (by decide) ?_
  refine x_put (ty := .boolean) X hP hS hG_h.1 (by omega) rfl in_X0_findEven_X0 tyX0 tyX0_ok nmX0 7 (by decide) (by decide +kernel) rfl rfl (by decide +kernel) rfl rfl (Nat.le_of_ble_eq_true rfl) dX0_findEven_2 (fun E H locs h1 hk hP hS => ?_)
  have hG_h := Ha_set_0 hG_h h1 hk
  have hG_n := Mu_kept hG_n (fun j h8 h9 => hk j (by omega))
  have hfr : ∀ j, (j < 44 ∨ 55 ≤ j) → E j = E0 j := fun j o0 => (hk j (by omega)).trans (hfr j o0)
  refine lv_aload_n X.1 X.2.1 dX0_findEven_5 rfl (lv_at hl 0 rfl) ?_
  obtain ⟨r1, hr1, hf⟩ := bd_of hf
  refine x_callVv X hP hS hG_h.1 (by omega) rfl (n := 0) (As := []) (ct_X0_find hG_h hG_n hr1) gX0_findEven_X0_find rfl (by decide +kernel) ⟨by decide, by decide⟩ rfl hl.1 rfl (Nat.le_of_ble_eq_true rfl) dX0_findEven_6 (fun E H locs hp hP hS => ?_)
  obtain ⟨hW_h, hk⟩ := hp
  have hG_h := hW_h
  have hG_n := Mu_kept hG_n (fun j h8 h9 => hk j (by omega))
  have hfr : ∀ j, (j < 44 ∨ 55 ≤ j) → E j = E0 j := fun j o0 => (hk j (by omega)).trans (hfr j o0)
  obtain rfl := Option.some.inj hf
  exact hret _ _ _ _ _ dX0_findEven_9 (⟨hG_h, hfr⟩) hP hS
def fX0_findFew   (ld_h : Nat → Nat → Int32) (so_h : Nat → Int32) (tr_h : Nat → Int32) (be_h : Nat → Int32) (men_n : Int32) (md_n : Int32) (day_n : Int32) (st_n : Nat → Int32) (ki_n : Nat → Int32) (we_n : Nat → Int32) (wo_n : Nat → Int32) (wr_n : Nat → Int32) : Option (Int32 × Int32 × Int32 × (Nat → Nat → Int32) × (Nat → Int32) × (Nat → Int32) × (Nat → Int32)) := (fX0_find 1 ld_h so_h tr_h be_h men_n md_n day_n st_n ki_n we_n wo_n wr_n).bind (fun r1 => some (r1.1, 1, r1.2.1, r1.2.2.1, r1.2.2.2.1, r1.2.2.2.2.1, r1.2.2.2.2.2))
theorem in_X0_findFew_X0 : ∀ w ∈ wsX00, w ∈ wsX0_findFew := by decide +kernel
theorem in_X0_findFew_X1 : ∀ w ∈ wsX10, w ∈ wsX0_findFew := by decide +kernel
set_option maxHeartbeats 4000000 in
set_option maxRecDepth 100000 in
theorem ct_X0_findFew {l : Launch} {D : va_G} {g : Nat → ClassId} {qa : Nat → Nat} {E0 : Nat → va_E} {worn_h : Int32} {few_h : Int32} {bc_h : Int32} {ld_h : Nat → Nat → Int32} {so_h : Nat → Int32} {tr_h : Nat → Int32} {be_h : Nat → Int32} {wy_h : Nat → Int32} {men_n : Int32} {md_n : Int32} {day_n : Int32} {drw_n : Int32} {bu_n : Nat → Int32} {st_n : Nat → Int32} {ki_n : Nat → Int32} {we_n : Nat → Int32} {wo_n : Nat → Int32} {wr_n : Nat → Int32} (hG_h : Ha g qa E0 44 worn_h few_h bc_h ld_h so_h tr_h be_h wy_h) (hG_n : Mu g qa E0 1 men_n md_n day_n drw_n bu_n st_n ki_n we_n wo_n wr_n) {R : (Int32 × Int32 × Int32 × (Nat → Nat → Int32) × (Nat → Int32) × (Nat → Int32) × (Nat → Int32))} (hf : fX0_findFew ld_h so_h tr_h be_h men_n md_n day_n st_n ki_n we_n wo_n wr_n = some R) : MV l yX0_findFew wsX0_findFew 13 D g qa E0 [.ref (qa 44)] (fun E => Ha g qa E 44 R.1 R.2.1 R.2.2.1 R.2.2.2.1 R.2.2.2.2.1 R.2.2.2.2.2.1 R.2.2.2.2.2.2 wy_h ∧ ∀ j, (j < 44 ∨ 55 ≤ j) → E j = E0 j) := by
  refine MV.mk (by decide) rfl (Nat.le_of_ble_eq_true rfl) ?_
  intro p e s m args below meth c ls Q X hret hP hS hl
  have hl : lv_has ls 1 [(0, .ref (qa 44))] := hl
  have hfr : ∀ j, (j < 44 ∨ 55 ≤ j) → E0 j = E0 j := fun _ _ => rfl
  rw [fX0_findFew] at hf
  refine lv_aload_n X.1 X.2.1 dX0_findFew_0 rfl (lv_at hl 0 rfl) ?_
  refine lv_iconst (v := 1) X.1 X.2.1 dX0_findFew_1 (by decide) ?_
  refine x_put (ty := .boolean) X hP hS hG_h.1 (by omega) rfl in_X0_findFew_X0 tyX0 tyX0_ok nmX0 7 (by decide) (by decide +kernel) rfl rfl (by decide +kernel) rfl rfl (Nat.le_of_ble_eq_true rfl) dX0_findFew_2 (fun E H locs h1 hk hP hS => ?_)
  have hG_h := Ha_set_0 hG_h h1 hk
  have hG_n := Mu_kept hG_n (fun j h8 h9 => hk j (by omega))
  have hfr : ∀ j, (j < 44 ∨ 55 ≤ j) → E j = E0 j := fun j o0 => (hk j (by omega)).trans (hfr j o0)
  refine lv_aload_n X.1 X.2.1 dX0_findFew_5 rfl (lv_at hl 0 rfl) ?_
  obtain ⟨r1, hr1, hf⟩ := bd_of hf
  refine x_callVv X hP hS hG_h.1 (by omega) rfl (n := 0) (As := []) (ct_X0_find hG_h hG_n hr1) gX0_findFew_X0_find rfl (by decide +kernel) ⟨by decide, by decide⟩ rfl hl.1 rfl (Nat.le_of_ble_eq_true rfl) dX0_findFew_6 (fun E H locs hp hP hS => ?_)
  obtain ⟨hW_h, hk⟩ := hp
  have hG_h := hW_h
  have hG_n := Mu_kept hG_n (fun j h8 h9 => hk j (by omega))
  have hfr : ∀ j, (j < 44 ∨ 55 ≤ j) → E j = E0 j := fun j o0 => (hk j (by omega)).trans (hfr j o0)
  obtain rfl := Option.some.inj hf
  exact hret _ _ _ _ _ dX0_findFew_9 (⟨hG_h, hfr⟩) hP hS
def bX0_power_4 (p1 : Int32) (p2 : Int32) (K1 : ((Int32 × Int32)) → Option Int32) : ((Int32 × Int32)) → Option Int32
  | (v2_1, v3_1) => if p2 ≤ v3_1 then (some v2_1) else (nm (v2_1 * p1) (fun x3 => nm (v3_1 + 1) (fun x4 => K1 (x3, x4))))
def fX0_power (p1 : Int32) (p2 : Int32)   : Option Int32 := lp (bX0_power_4 p1 p2) FU (1, 0)
set_option maxHeartbeats 4000000 in
set_option maxRecDepth 100000 in
theorem ct_X0_power {l : Launch} {D : va_G} {g : Nat → ClassId} {qa : Nat → Nat} {E0 : Nat → va_E} {p1 : Int32} {p2 : Int32} {R : Int32} (hf : fX0_power p1 p2 = some R) : MI l yX0_power wsX0_power 0 D g qa E0 [.int p1, .int p2] R (fun E => E = E0) := by
  refine MI.mk (by decide) rfl (Nat.le_of_ble_eq_true rfl) ?_
  intro p e s m args below meth c ls Q X hret hP hS hl
  have hl : lv_has ls 4 [(0, .int p1), (1, .int p2)] := hl
  rw [fX0_power] at hf
  refine lv_iconst (v := 1) X.1 X.2.1 dX0_power_0 (by decide) ?_
  refine lv_istore_n (lv' := [(2, .int 1), (0, .int p1), (1, .int p2)]) X.1 X.2.1 dX0_power_1 rfl hl (by decide) rfl (fun ls hl => ?_)
  refine lv_iconst (v := 0) X.1 X.2.1 dX0_power_2 (by decide) ?_
  refine lv_istore_n (lv' := [(3, .int 0), (2, .int 1), (0, .int p1), (1, .int p2)]) X.1 X.2.1 dX0_power_3 rfl hl (by decide) rfl (fun ls hl => ?_)
  have lp1 : ∀ (n1 : Nat) (v2_1 : Int32) (v3_1 : Int32) (H : Heap) (locs : List Loc) (ls : Array Slot), lp (bX0_power_4 p1 p2) n1 (v2_1, v3_1) = some R → va_P D vwCl (WD qa E0) H → va_S (gA qa s.heap.size) s.heap H locs → lv_has ls 4 [(0, .int p1), (1, .int p2), (2, .int v2_1), (3, .int v3_1)] → W p l e (rmf 0) s m args below meth c H locs 0 0 Q (F0 m 4 ls []) := by
    intro n1
    induction n1 with
    | zero =>
      intro v2_1 v3_1 H locs ls hf
      exact absurd hf (by intro h; cases h)
    | succ n1 ih1 =>
      intro v2_1 v3_1 H locs ls hf hP hS hl
      have hf : bX0_power_4 p1 p2 (lp (bX0_power_4 p1 p2) n1) (v2_1, v3_1) = some R := hf
      rw [bX0_power_4] at hf
      refine lv_iload_n X.1 X.2.1 dX0_power_4 rfl (lv_at hl 3 rfl) ?_
      refine lv_iload_n X.1 X.2.1 dX0_power_5 rfl (lv_at hl 1 rfl) ?_
      refine lv_icmp_ge (tgt := 19) X.1 X.2.1 dX0_power_6 (by decide) (fun c2 => ?_) (fun c2 => ?_)
      · have hf := ifp hf c2
        refine lv_iload_n X.1 X.2.1 dX0_power_19 rfl (lv_at hl 2 rfl) ?_
        obtain rfl := Option.some.inj hf
        exact hret _ _ _ _ _ _ dX0_power_20 rfl rfl (rfl) hP hS
      · have hf := ifn hf c2
        refine lv_iload_n X.1 X.2.1 dX0_power_9 rfl (lv_at hl 2 rfl) ?_
        refine lv_iload_n X.1 X.2.1 dX0_power_10 rfl (lv_at hl 0 rfl) ?_
        refine lv_imul X.1 X.2.1 dX0_power_11 ?_
        obtain ⟨x3, ex3, hf⟩ := nm_of hf
        refine lv_top_as ex3 ?_
        refine lv_istore_n (lv' := [(2, .int x3), (0, .int p1), (1, .int p2), (3, .int v3_1)]) X.1 X.2.1 dX0_power_12 rfl hl (by decide) rfl (fun ls hl => ?_)
        obtain ⟨x4, ex4, hf⟩ := nm_of hf
        refine lv_iinc (v := x4) (lv' := [(3, .int x4), (2, .int x3), (0, .int p1), (1, .int p2)]) X.1 X.2.1 dX0_power_13 hl (k := 3) rfl (by rw [ex4]; rfl) (by decide) rfl (fun ls hl => ?_)
        refine lv_goto (tgt := 4) X.1 X.2.1 dX0_power_16 (by decide) ?_
        exact ih1 x3 x4 _ _ _ hf hP hS (lv_sub hl [2, 3, 1, 0] rfl)
  exact lp1 FU 1 0 _ _ _ hf hP hS (lv_sub hl [2, 3, 1, 0] rfl)
def fX0_ways   (worn_h : Int32) (men_n : Int32) : Option Int32 := (fJ6_bitCount_0f7a4 worn_h).bind (fun r1 => (fX0_power men_n r1).bind (fun r2 => some r2))
theorem in_X0_ways_X0 : ∀ w ∈ wsX00, w ∈ wsX0_ways := by decide +kernel
theorem in_X0_ways_X1 : ∀ w ∈ wsX10, w ∈ wsX0_ways := by decide +kernel
set_option maxHeartbeats 4000000 in
set_option maxRecDepth 100000 in
theorem ct_X0_ways {l : Launch} {D : va_G} {g : Nat → ClassId} {qa : Nat → Nat} {E0 : Nat → va_E} {worn_h : Int32} {few_h : Int32} {bc_h : Int32} {ld_h : Nat → Nat → Int32} {so_h : Nat → Int32} {tr_h : Nat → Int32} {be_h : Nat → Int32} {wy_h : Nat → Int32} {men_n : Int32} {md_n : Int32} {day_n : Int32} {drw_n : Int32} {bu_n : Nat → Int32} {st_n : Nat → Int32} {ki_n : Nat → Int32} {we_n : Nat → Int32} {wo_n : Nat → Int32} {wr_n : Nat → Int32} (hG_h : Ha g qa E0 44 worn_h few_h bc_h ld_h so_h tr_h be_h wy_h) (hG_n : Mu g qa E0 1 men_n md_n day_n drw_n bu_n st_n ki_n we_n wo_n wr_n) {R : Int32} (hf : fX0_ways worn_h men_n = some R) : MI l yX0_ways wsX0_ways 1 D g qa E0 [.ref (qa 44)] R (fun E => E = E0) := by
  refine MI.mk (by decide) rfl (Nat.le_of_ble_eq_true rfl) ?_
  intro p e s m args below meth c ls Q X hret hP hS hl
  have hl : lv_has ls 1 [(0, .ref (qa 44))] := hl
  rw [fX0_ways] at hf
  refine lv_aload_n X.1 X.2.1 dX0_ways_0 rfl (lv_at hl 0 rfl) ?_
  refine x_get X hP hG_h.1 (by omega) rfl in_X0_ways_X0 0 (by decide) (by decide +kernel) rfl rfl dX0_ways_1 ?_
  refine x_get X hP hG_n.1 (by omega) rfl in_X0_ways_X1 0 (by decide) (by decide +kernel) rfl rfl dX0_ways_4 ?_
  refine lv_aload_n X.1 X.2.1 dX0_ways_7 rfl (lv_at hl 0 rfl) ?_
  refine x_get X hP hG_h.1 (by omega) rfl in_X0_ways_X0 2 (by decide) (by decide +kernel) rfl rfl dX0_ways_8 ?_
  obtain ⟨r1, hr1, hf⟩ := bd_of hf
  refine x_rdSi X hP hS (index := 100) (n := 1) (As := [.int worn_h]) (ct_J6_bitCount_0f7a4  hr1) ggX0_ways_J6_bitCount_0f7a4 (by decide +kernel) (by decide +kernel) (by decide +kernel) rfl (by decide +kernel) ⟨by decide, by decide⟩ rfl hl.1 rfl (Nat.le_of_ble_eq_true rfl) dX0_ways_11 (fun H locs hP hS => ?_)
  obtain ⟨r2, hr2, hf⟩ := bd_of hf
  refine x_rdSi X hP hS (index := 106) (n := 2) (As := [.int men_n, .int r1]) (ct_X0_power  hr2) ggX0_ways_X0_power (by decide +kernel) (by decide +kernel) (by decide +kernel) rfl (by decide +kernel) ⟨by decide, by decide⟩ rfl hl.1 rfl (Nat.le_of_ble_eq_true rfl) dX0_ways_14 (fun H locs hP hS => ?_)
  obtain rfl := Option.some.inj hf
  exact hret _ _ _ _ _ _ dX0_ways_17 rfl rfl (rfl) hP hS
def bX0_waysWith_5 (ld_h : Nat → Nat → Int32) (wy_h : Nat → Int32) (st_n : Nat → Int32) (p1 : Int32) (p2 : Int32) (K1 : ((Int32 × Int32)) → Option Int32) : ((Int32 × Int32)) → Option Int32
  | (v3_1, v4_1) => if p2 < v4_1 then (some v3_1) else (if (v4_1 &&& (p2 ^^^ (-1))) = 0 then ((fX0_bends p1 v4_1 ld_h st_n).bind (fun r5 => if r5 = 0 then (gin (p2 &&& (v4_1 ^^^ (-1))) 64 (nm (v3_1 + (wy_h (Int32.toNatClampNeg (p2 &&& (v4_1 ^^^ (-1)))))) (fun x9 => nm (v4_1 + 1) (fun x10 => K1 (x9, x10))))) else (nm (v4_1 + 1) (fun x7 => K1 (v3_1, x7))))) else (nm (v4_1 + 1) (fun x4 => K1 (v3_1, x4))))
def fX0_waysWith (p1 : Int32) (p2 : Int32)  (ld_h : Nat → Nat → Int32) (wy_h : Nat → Int32) (st_n : Nat → Int32) : Option Int32 := lp (bX0_waysWith_5 ld_h wy_h st_n p1 p2) FU (0, 0)
theorem in_X0_waysWith_X0 : ∀ w ∈ wsX00, w ∈ wsX0_waysWith := by decide +kernel
theorem in_X0_waysWith_X1 : ∀ w ∈ wsX10, w ∈ wsX0_waysWith := by decide +kernel
set_option maxHeartbeats 4000000 in
set_option maxRecDepth 100000 in
theorem ct_X0_waysWith {l : Launch} {D : va_G} {g : Nat → ClassId} {qa : Nat → Nat} {E0 : Nat → va_E} {p1 : Int32} {p2 : Int32} {worn_h : Int32} {few_h : Int32} {bc_h : Int32} {ld_h : Nat → Nat → Int32} {so_h : Nat → Int32} {tr_h : Nat → Int32} {be_h : Nat → Int32} {wy_h : Nat → Int32} {men_n : Int32} {md_n : Int32} {day_n : Int32} {drw_n : Int32} {bu_n : Nat → Int32} {st_n : Nat → Int32} {ki_n : Nat → Int32} {we_n : Nat → Int32} {wo_n : Nat → Int32} {wr_n : Nat → Int32} (hG_h : Ha g qa E0 44 worn_h few_h bc_h ld_h so_h tr_h be_h wy_h) (hG_n : Mu g qa E0 1 men_n md_n day_n drw_n bu_n st_n ki_n we_n wo_n wr_n) {R : Int32} (hf : fX0_waysWith p1 p2 ld_h wy_h st_n = some R) : MI l yX0_waysWith wsX0_waysWith 1 D g qa E0 [.ref (qa 44), .int p1, .int p2] R (fun E => E = E0) := by
  refine MI.mk (by decide) rfl (Nat.le_of_ble_eq_true rfl) ?_
  intro p e s m args below meth c ls Q X hret hP hS hl
  have hl : lv_has ls 5 [(0, .ref (qa 44)), (1, .int p1), (2, .int p2)] := hl
  rw [fX0_waysWith] at hf
  refine lv_iconst (v := 0) X.1 X.2.1 dX0_waysWith_0 (by decide) ?_
  refine lv_istore_n (lv' := [(3, .int 0), (0, .ref (qa 44)), (1, .int p1), (2, .int p2)]) X.1 X.2.1 dX0_waysWith_1 rfl hl (by decide) rfl (fun ls hl => ?_)
  refine lv_iconst (v := 0) X.1 X.2.1 dX0_waysWith_2 (by decide) ?_
  refine lv_istore (lv' := [(4, .int 0), (3, .int 0), (0, .ref (qa 44)), (1, .int p1), (2, .int p2)]) X.1 X.2.1 dX0_waysWith_3 hl (by decide) rfl (fun ls hl => ?_)
  have lp1 : ∀ (n1 : Nat) (v3_1 : Int32) (v4_1 : Int32) (H : Heap) (locs : List Loc) (ls : Array Slot), lp (bX0_waysWith_5 ld_h wy_h st_n p1 p2) n1 (v3_1, v4_1) = some R → va_P D vwCl (WD qa E0) H → va_S (gA qa s.heap.size) s.heap H locs → lv_has ls 5 [(0, .ref (qa 44)), (1, .int p1), (2, .int p2), (3, .int v3_1), (4, .int v4_1)] → W p l e (rmf 1) s m args below meth c H locs 0 0 Q (F0 m 5 ls []) := by
    intro n1
    induction n1 with
    | zero =>
      intro v3_1 v4_1 H locs ls hf
      exact absurd hf (by intro h; cases h)
    | succ n1 ih1 =>
      intro v3_1 v4_1 H locs ls hf hP hS hl
      have hf : bX0_waysWith_5 ld_h wy_h st_n p1 p2 (lp (bX0_waysWith_5 ld_h wy_h st_n p1 p2) n1) (v3_1, v4_1) = some R := hf
      rw [bX0_waysWith_5] at hf
      refine lv_iload X.1 X.2.1 dX0_waysWith_5 (lv_at hl 4 rfl) ?_
      refine lv_iload_n X.1 X.2.1 dX0_waysWith_7 rfl (lv_at hl 2 rfl) ?_
      refine lv_icmp_gt (tgt := 50) X.1 X.2.1 dX0_waysWith_8 (by decide) (fun c2 => ?_) (fun c2 => ?_)
      · have hf := ifp hf c2
        refine lv_iload_n X.1 X.2.1 dX0_waysWith_50 rfl (lv_at hl 3 rfl) ?_
        obtain rfl := Option.some.inj hf
        exact hret _ _ _ _ _ _ dX0_waysWith_51 rfl rfl (rfl) hP hS
      · have hf := ifn hf c2
        refine lv_iload X.1 X.2.1 dX0_waysWith_11 (lv_at hl 4 rfl) ?_
        refine lv_iload_n X.1 X.2.1 dX0_waysWith_13 rfl (lv_at hl 2 rfl) ?_
        refine lv_iconst (v := (-1)) X.1 X.2.1 dX0_waysWith_14 (by decide) ?_
        refine lv_ixor X.1 X.2.1 dX0_waysWith_15 ?_
        refine lv_iand X.1 X.2.1 dX0_waysWith_16 ?_
        refine lv_if_ne (tgt := 44) X.1 X.2.1 dX0_waysWith_17 (by decide) (fun c3 => ?_) (fun c3 => ?_)
        · have hf := ifn hf c3
          obtain ⟨x4, ex4, hf⟩ := nm_of hf
          refine lv_iinc (v := x4) (lv' := [(4, .int x4), (0, .ref (qa 44)), (1, .int p1), (2, .int p2), (3, .int v3_1)]) X.1 X.2.1 dX0_waysWith_44 hl (k := 4) rfl (by rw [ex4]; rfl) (by decide) rfl (fun ls hl => ?_)
          refine lv_goto (tgt := 5) X.1 X.2.1 dX0_waysWith_47 (by decide) ?_
          exact ih1 v3_1 x4 _ _ _ hf hP hS (lv_sub hl [1, 2, 3, 4, 0] rfl)
        · have hf := ifp hf c3
          refine lv_aload_n X.1 X.2.1 dX0_waysWith_20 rfl (lv_at hl 0 rfl) ?_
          refine lv_iload_n X.1 X.2.1 dX0_waysWith_21 rfl (lv_at hl 1 rfl) ?_
          refine lv_iload X.1 X.2.1 dX0_waysWith_22 (lv_at hl 4 rfl) ?_
          obtain ⟨r5, hr5, hf⟩ := bd_of hf
          refine x_rdVi X hP hS hG_h.1 (by omega) rfl (n := 2) (As := [.int p1, .int v4_1]) (ct_X0_bends hG_h hG_n hr5) gX0_waysWith_X0_bends rfl (by decide +kernel) ⟨by decide, by decide⟩ rfl hl.1 rfl (Nat.le_of_ble_eq_true rfl) dX0_waysWith_24 (fun H locs hP hS => ?_)
          refine lv_if_ne (tgt := 44) X.1 X.2.1 dX0_waysWith_27 (by decide) (fun c6 => ?_) (fun c6 => ?_)
          · have hf := ifn hf c6
            obtain ⟨x7, ex7, hf⟩ := nm_of hf
            refine lv_iinc (v := x7) (lv' := [(4, .int x7), (0, .ref (qa 44)), (1, .int p1), (2, .int p2), (3, .int v3_1)]) X.1 X.2.1 dX0_waysWith_44 hl (k := 4) rfl (by rw [ex7]; rfl) (by decide) rfl (fun ls hl => ?_)
            refine lv_goto (tgt := 5) X.1 X.2.1 dX0_waysWith_47 (by decide) ?_
            exact ih1 v3_1 x7 _ _ _ hf hP hS (lv_sub hl [1, 2, 3, 4, 0] rfl)
          · have hf := ifp hf c6
            refine lv_iload_n X.1 X.2.1 dX0_waysWith_30 rfl (lv_at hl 3 rfl) ?_
            refine lv_aload_n X.1 X.2.1 dX0_waysWith_31 rfl (lv_at hl 0 rfl) ?_
            refine x_get X hP hG_h.1 (by omega) rfl in_X0_waysWith_X0 6 (by decide) (by decide +kernel) rfl rfl dX0_waysWith_32 ?_
            refine lv_iload_n X.1 X.2.1 dX0_waysWith_35 rfl (lv_at hl 2 rfl) ?_
            refine lv_iload X.1 X.2.1 dX0_waysWith_36 (lv_at hl 4 rfl) ?_
            refine lv_iconst (v := (-1)) X.1 X.2.1 dX0_waysWith_38 (by decide) ?_
            refine lv_ixor X.1 X.2.1 dX0_waysWith_39 ?_
            refine lv_iand X.1 X.2.1 dX0_waysWith_40 ?_
            obtain ⟨hi8, hf⟩ := gin_of hf
            refine x_iald X hP hG_h.2.2.2.2.2.2 (by omega) hi8 dX0_waysWith_41 ?_
            refine lv_iadd X.1 X.2.1 dX0_waysWith_42 ?_
            obtain ⟨x9, ex9, hf⟩ := nm_of hf
            refine lv_top_as ex9 ?_
            refine lv_istore_n (lv' := [(3, .int x9), (0, .ref (qa 44)), (1, .int p1), (2, .int p2), (4, .int v4_1)]) X.1 X.2.1 dX0_waysWith_43 rfl hl (by decide) rfl (fun ls hl => ?_)
            obtain ⟨x10, ex10, hf⟩ := nm_of hf
            refine lv_iinc (v := x10) (lv' := [(4, .int x10), (3, .int x9), (0, .ref (qa 44)), (1, .int p1), (2, .int p2)]) X.1 X.2.1 dX0_waysWith_44 hl (k := 4) rfl (by rw [ex10]; rfl) (by decide) rfl (fun ls hl => ?_)
            refine lv_goto (tgt := 5) X.1 X.2.1 dX0_waysWith_47 (by decide) ?_
            exact ih1 x9 x10 _ _ _ hf hP hS (lv_sub hl [2, 3, 4, 1, 0] rfl)
  exact lp1 FU 0 0 _ _ _ hf hP hS (lv_sub hl [2, 3, 4, 1, 0] rfl)
def bX0_waysWithBent_4 (worn_h : Int32) (ld_h : Nat → Nat → Int32) (men_n : Int32) (st_n : Nat → Int32) (p1 : Int32) (K1 : ((Int32 × Int32)) → Option Int32) : ((Int32 × Int32)) → Option Int32
  | (v2_1, v3_1) => if worn_h < v3_1 then (some v2_1) else (if (v3_1 &&& (worn_h ^^^ (-1))) = 0 then ((fX0_bends p1 v3_1 ld_h st_n).bind (fun r5 => if r5 = 0 then (nm (v3_1 + 1) (fun x7 => K1 (v2_1, x7))) else ((fJ6_bitCount_0f7a4 (worn_h &&& (v3_1 ^^^ (-1)))).bind (fun r8 => (fX0_power (men_n - 1) r8).bind (fun r9 => nm (v2_1 + r9) (fun x10 => nm (v3_1 + 1) (fun x11 => K1 (x10, x11)))))))) else (nm (v3_1 + 1) (fun x4 => K1 (v2_1, x4))))
def fX0_waysWithBent (p1 : Int32)  (worn_h : Int32) (ld_h : Nat → Nat → Int32) (men_n : Int32) (st_n : Nat → Int32) : Option Int32 := lp (bX0_waysWithBent_4 worn_h ld_h men_n st_n p1) FU (0, 0)
theorem in_X0_waysWithBent_X0 : ∀ w ∈ wsX00, w ∈ wsX0_waysWithBent := by decide +kernel
theorem in_X0_waysWithBent_X1 : ∀ w ∈ wsX10, w ∈ wsX0_waysWithBent := by decide +kernel
set_option maxHeartbeats 4000000 in
set_option maxRecDepth 100000 in
theorem ct_X0_waysWithBent {l : Launch} {D : va_G} {g : Nat → ClassId} {qa : Nat → Nat} {E0 : Nat → va_E} {p1 : Int32} {worn_h : Int32} {few_h : Int32} {bc_h : Int32} {ld_h : Nat → Nat → Int32} {so_h : Nat → Int32} {tr_h : Nat → Int32} {be_h : Nat → Int32} {wy_h : Nat → Int32} {men_n : Int32} {md_n : Int32} {day_n : Int32} {drw_n : Int32} {bu_n : Nat → Int32} {st_n : Nat → Int32} {ki_n : Nat → Int32} {we_n : Nat → Int32} {wo_n : Nat → Int32} {wr_n : Nat → Int32} (hG_h : Ha g qa E0 44 worn_h few_h bc_h ld_h so_h tr_h be_h wy_h) (hG_n : Mu g qa E0 1 men_n md_n day_n drw_n bu_n st_n ki_n we_n wo_n wr_n) {R : Int32} (hf : fX0_waysWithBent p1 worn_h ld_h men_n st_n = some R) : MI l yX0_waysWithBent wsX0_waysWithBent 1 D g qa E0 [.ref (qa 44), .int p1] R (fun E => E = E0) := by
  refine MI.mk (by decide) rfl (Nat.le_of_ble_eq_true rfl) ?_
  intro p e s m args below meth c ls Q X hret hP hS hl
  have hl : lv_has ls 4 [(0, .ref (qa 44)), (1, .int p1)] := hl
  rw [fX0_waysWithBent] at hf
  refine lv_iconst (v := 0) X.1 X.2.1 dX0_waysWithBent_0 (by decide) ?_
  refine lv_istore_n (lv' := [(2, .int 0), (0, .ref (qa 44)), (1, .int p1)]) X.1 X.2.1 dX0_waysWithBent_1 rfl hl (by decide) rfl (fun ls hl => ?_)
  refine lv_iconst (v := 0) X.1 X.2.1 dX0_waysWithBent_2 (by decide) ?_
  refine lv_istore_n (lv' := [(3, .int 0), (2, .int 0), (0, .ref (qa 44)), (1, .int p1)]) X.1 X.2.1 dX0_waysWithBent_3 rfl hl (by decide) rfl (fun ls hl => ?_)
  have lp1 : ∀ (n1 : Nat) (v2_1 : Int32) (v3_1 : Int32) (H : Heap) (locs : List Loc) (ls : Array Slot), lp (bX0_waysWithBent_4 worn_h ld_h men_n st_n p1) n1 (v2_1, v3_1) = some R → va_P D vwCl (WD qa E0) H → va_S (gA qa s.heap.size) s.heap H locs → lv_has ls 4 [(0, .ref (qa 44)), (1, .int p1), (2, .int v2_1), (3, .int v3_1)] → W p l e (rmf 1) s m args below meth c H locs 0 0 Q (F0 m 4 ls []) := by
    intro n1
    induction n1 with
    | zero =>
      intro v2_1 v3_1 H locs ls hf
      exact absurd hf (by intro h; cases h)
    | succ n1 ih1 =>
      intro v2_1 v3_1 H locs ls hf hP hS hl
      have hf : bX0_waysWithBent_4 worn_h ld_h men_n st_n p1 (lp (bX0_waysWithBent_4 worn_h ld_h men_n st_n p1) n1) (v2_1, v3_1) = some R := hf
      rw [bX0_waysWithBent_4] at hf
      refine lv_iload_n X.1 X.2.1 dX0_waysWithBent_4 rfl (lv_at hl 3 rfl) ?_
      refine lv_aload_n X.1 X.2.1 dX0_waysWithBent_5 rfl (lv_at hl 0 rfl) ?_
      refine x_get X hP hG_h.1 (by omega) rfl in_X0_waysWithBent_X0 2 (by decide) (by decide +kernel) rfl rfl dX0_waysWithBent_6 ?_
      refine lv_icmp_gt (tgt := 64) X.1 X.2.1 dX0_waysWithBent_9 (by decide) (fun c2 => ?_) (fun c2 => ?_)
      · have hf := ifp hf c2
        refine lv_iload_n X.1 X.2.1 dX0_waysWithBent_64 rfl (lv_at hl 2 rfl) ?_
        obtain rfl := Option.some.inj hf
        exact hret _ _ _ _ _ _ dX0_waysWithBent_65 rfl rfl (rfl) hP hS
      · have hf := ifn hf c2
        refine lv_iload_n X.1 X.2.1 dX0_waysWithBent_12 rfl (lv_at hl 3 rfl) ?_
        refine lv_aload_n X.1 X.2.1 dX0_waysWithBent_13 rfl (lv_at hl 0 rfl) ?_
        refine x_get X hP hG_h.1 (by omega) rfl in_X0_waysWithBent_X0 2 (by decide) (by decide +kernel) rfl rfl dX0_waysWithBent_14 ?_
        refine lv_iconst (v := (-1)) X.1 X.2.1 dX0_waysWithBent_17 (by decide) ?_
        refine lv_ixor X.1 X.2.1 dX0_waysWithBent_18 ?_
        refine lv_iand X.1 X.2.1 dX0_waysWithBent_19 ?_
        refine lv_if_ne (tgt := 58) X.1 X.2.1 dX0_waysWithBent_20 (by decide) (fun c3 => ?_) (fun c3 => ?_)
        · have hf := ifn hf c3
          obtain ⟨x4, ex4, hf⟩ := nm_of hf
          refine lv_iinc (v := x4) (lv' := [(3, .int x4), (0, .ref (qa 44)), (1, .int p1), (2, .int v2_1)]) X.1 X.2.1 dX0_waysWithBent_58 hl (k := 3) rfl (by rw [ex4]; rfl) (by decide) rfl (fun ls hl => ?_)
          refine lv_goto (tgt := 4) X.1 X.2.1 dX0_waysWithBent_61 (by decide) ?_
          exact ih1 v2_1 x4 _ _ _ hf hP hS (lv_sub hl [1, 2, 3, 0] rfl)
        · have hf := ifp hf c3
          refine lv_aload_n X.1 X.2.1 dX0_waysWithBent_23 rfl (lv_at hl 0 rfl) ?_
          refine lv_iload_n X.1 X.2.1 dX0_waysWithBent_24 rfl (lv_at hl 1 rfl) ?_
          refine lv_iload_n X.1 X.2.1 dX0_waysWithBent_25 rfl (lv_at hl 3 rfl) ?_
          obtain ⟨r5, hr5, hf⟩ := bd_of hf
          refine x_rdVi X hP hS hG_h.1 (by omega) rfl (n := 2) (As := [.int p1, .int v3_1]) (ct_X0_bends hG_h hG_n hr5) gX0_waysWithBent_X0_bends rfl (by decide +kernel) ⟨by decide, by decide⟩ rfl hl.1 rfl (Nat.le_of_ble_eq_true rfl) dX0_waysWithBent_26 (fun H locs hP hS => ?_)
          refine lv_if_eq (tgt := 58) X.1 X.2.1 dX0_waysWithBent_29 (by decide) (fun c6 => ?_) (fun c6 => ?_)
          · have hf := ifp hf c6
            obtain ⟨x7, ex7, hf⟩ := nm_of hf
            refine lv_iinc (v := x7) (lv' := [(3, .int x7), (0, .ref (qa 44)), (1, .int p1), (2, .int v2_1)]) X.1 X.2.1 dX0_waysWithBent_58 hl (k := 3) rfl (by rw [ex7]; rfl) (by decide) rfl (fun ls hl => ?_)
            refine lv_goto (tgt := 4) X.1 X.2.1 dX0_waysWithBent_61 (by decide) ?_
            exact ih1 v2_1 x7 _ _ _ hf hP hS (lv_sub hl [1, 2, 3, 0] rfl)
          · have hf := ifn hf c6
            refine lv_iload_n X.1 X.2.1 dX0_waysWithBent_32 rfl (lv_at hl 2 rfl) ?_
            refine lv_aload_n X.1 X.2.1 dX0_waysWithBent_33 rfl (lv_at hl 0 rfl) ?_
            refine x_get X hP hG_h.1 (by omega) rfl in_X0_waysWithBent_X0 0 (by decide) (by decide +kernel) rfl rfl dX0_waysWithBent_34 ?_
            refine x_get X hP hG_n.1 (by omega) rfl in_X0_waysWithBent_X1 0 (by decide) (by decide +kernel) rfl rfl dX0_waysWithBent_37 ?_
            refine lv_iconst (v := 1) X.1 X.2.1 dX0_waysWithBent_40 (by decide) ?_
            refine lv_isub X.1 X.2.1 dX0_waysWithBent_41 ?_
            refine lv_aload_n X.1 X.2.1 dX0_waysWithBent_42 rfl (lv_at hl 0 rfl) ?_
            refine x_get X hP hG_h.1 (by omega) rfl in_X0_waysWithBent_X0 2 (by decide) (by decide +kernel) rfl rfl dX0_waysWithBent_43 ?_
            refine lv_iload_n X.1 X.2.1 dX0_waysWithBent_46 rfl (lv_at hl 3 rfl) ?_
            refine lv_iconst (v := (-1)) X.1 X.2.1 dX0_waysWithBent_47 (by decide) ?_
            refine lv_ixor X.1 X.2.1 dX0_waysWithBent_48 ?_
            refine lv_iand X.1 X.2.1 dX0_waysWithBent_49 ?_
            obtain ⟨r8, hr8, hf⟩ := bd_of hf
            refine x_rdSi X hP hS (index := 100) (n := 1) (As := [.int (worn_h &&& (v3_1 ^^^ (-1)))]) (ct_J6_bitCount_0f7a4  hr8) ggX0_waysWithBent_J6_bitCount_0f7a4 (by decide +kernel) (by decide +kernel) (by decide +kernel) rfl (by decide +kernel) ⟨by decide, by decide⟩ rfl hl.1 rfl (Nat.le_of_ble_eq_true rfl) dX0_waysWithBent_50 (fun H locs hP hS => ?_)
            obtain ⟨r9, hr9, hf⟩ := bd_of hf
            refine x_rdSi X hP hS (index := 106) (n := 2) (As := [.int (men_n - 1), .int r8]) (ct_X0_power  hr9) ggX0_waysWithBent_X0_power (by decide +kernel) (by decide +kernel) (by decide +kernel) rfl (by decide +kernel) ⟨by decide, by decide⟩ rfl hl.1 rfl (Nat.le_of_ble_eq_true rfl) dX0_waysWithBent_53 (fun H locs hP hS => ?_)
            refine lv_iadd X.1 X.2.1 dX0_waysWithBent_56 ?_
            obtain ⟨x10, ex10, hf⟩ := nm_of hf
            refine lv_top_as ex10 ?_
            refine lv_istore_n (lv' := [(2, .int x10), (0, .ref (qa 44)), (1, .int p1), (3, .int v3_1)]) X.1 X.2.1 dX0_waysWithBent_57 rfl hl (by decide) rfl (fun ls hl => ?_)
            obtain ⟨x11, ex11, hf⟩ := nm_of hf
            refine lv_iinc (v := x11) (lv' := [(3, .int x11), (2, .int x10), (0, .ref (qa 44)), (1, .int p1)]) X.1 X.2.1 dX0_waysWithBent_58 hl (k := 3) rfl (by rw [ex11]; rfl) (by decide) rfl (fun ls hl => ?_)
            refine lv_goto (tgt := 4) X.1 X.2.1 dX0_waysWithBent_61 (by decide) ?_
            exact ih1 x10 x11 _ _ _ hf hP hS (lv_sub hl [2, 3, 1, 0] rfl)
  exact lp1 FU 0 0 _ _ _ hf hP hS (lv_sub hl [2, 3, 1, 0] rfl)
def bX0_waysWithNobodyBent_47 (worn_h : Int32) (ld_h : Nat → Nat → Int32) (st_n : Nat → Int32) (v1_3 : Int32) (K3 : ((Int32 × (Nat → Int32))) → Option (Int32 × (Nat → Int32))) (K6 : ((Int32 × (Nat → Int32))) → Option (Int32 × (Nat → Int32))) : ((Int32 × (Nat → Int32))) → Option (Int32 × (Nat → Int32))
  | (v2_6, wy_h_6) => if v2_6 < 0 then (nm (v1_3 + 1) (fun x8 => K3 (x8, wy_h_6))) else (if (v2_6 &&& (worn_h ^^^ (-1))) = 0 then ((fX0_waysWith v1_3 v2_6 ld_h wy_h_6 st_n).bind (fun r11 => gin v2_6 64 (nm (v2_6 + (-1)) (fun x13 => K6 (x13, upd wy_h_6 (Int32.toNatClampNeg v2_6) r11))))) else (nm (v2_6 + (-1)) (fun x10 => K6 (x10, wy_h_6))))
def bX0_waysWithNobodyBent_31 (worn_h : Int32) (ld_h : Nat → Nat → Int32) (men_n : Int32) (st_n : Nat → Int32) (K3 : ((Int32 × (Nat → Int32))) → Option (Int32 × (Nat → Int32))) : ((Int32 × (Nat → Int32))) → Option (Int32 × (Nat → Int32))
  | (v1_3, wy_h_3) => if men_n ≤ v1_3 then (gin worn_h 64 (some (wy_h_3 (Int32.toNatClampNeg worn_h), wy_h_3))) else (lp (bX0_waysWithNobodyBent_47 worn_h ld_h st_n v1_3 K3) FU (worn_h, wy_h_3))
def bX0_waysWithNobodyBent_2 (worn_h : Int32) (ld_h : Nat → Nat → Int32) (men_n : Int32) (st_n : Nat → Int32) (K1 : ((Int32 × (Nat → Int32))) → Option (Int32 × (Nat → Int32))) : ((Int32 × (Nat → Int32))) → Option (Int32 × (Nat → Int32))
  | (v1_1, wy_h_1) => if 64 ≤ v1_1 then (lp (bX0_waysWithNobodyBent_31 worn_h ld_h men_n st_n) FU (0, wy_h_1)) else (if v1_1 = 0 then (gin v1_1 64 (nm (v1_1 + 1) (fun x18 => K1 (x18, upd wy_h_1 (Int32.toNatClampNeg v1_1) 1)))) else (gin v1_1 64 (nm (v1_1 + 1) (fun x16 => K1 (x16, upd wy_h_1 (Int32.toNatClampNeg v1_1) 0)))))
def fX0_waysWithNobodyBent   (worn_h : Int32) (ld_h : Nat → Nat → Int32) (wy_h : Nat → Int32) (men_n : Int32) (st_n : Nat → Int32) : Option (Int32 × (Nat → Int32)) := lp (bX0_waysWithNobodyBent_2 worn_h ld_h men_n st_n) FU (0, wy_h)
theorem in_X0_waysWithNobodyBent_X0 : ∀ w ∈ wsX00, w ∈ wsX0_waysWithNobodyBent := by decide +kernel
theorem in_X0_waysWithNobodyBent_X1 : ∀ w ∈ wsX10, w ∈ wsX0_waysWithNobodyBent := by decide +kernel
set_option maxHeartbeats 4000000 in
set_option maxRecDepth 100000 in
theorem ct_X0_waysWithNobodyBent {l : Launch} {D : va_G} {g : Nat → ClassId} {qa : Nat → Nat} {E0 : Nat → va_E} {worn_h : Int32} {few_h : Int32} {bc_h : Int32} {ld_h : Nat → Nat → Int32} {so_h : Nat → Int32} {tr_h : Nat → Int32} {be_h : Nat → Int32} {wy_h : Nat → Int32} {men_n : Int32} {md_n : Int32} {day_n : Int32} {drw_n : Int32} {bu_n : Nat → Int32} {st_n : Nat → Int32} {ki_n : Nat → Int32} {we_n : Nat → Int32} {wo_n : Nat → Int32} {wr_n : Nat → Int32} (hG_h : Ha g qa E0 44 worn_h few_h bc_h ld_h so_h tr_h be_h wy_h) (hG_n : Mu g qa E0 1 men_n md_n day_n drw_n bu_n st_n ki_n we_n wo_n wr_n) {R : (Int32 × (Nat → Int32))} (hf : fX0_waysWithNobodyBent worn_h ld_h wy_h men_n st_n = some R) : MI l yX0_waysWithNobodyBent wsX0_waysWithNobodyBent 2 D g qa E0 [.ref (qa 44)] R.1 (fun E => Ha g qa E 44 worn_h few_h bc_h ld_h so_h tr_h be_h R.2 ∧ ∀ j, (j < 44 ∨ 55 ≤ j) → E j = E0 j) := by
  refine MI.mk (by decide) rfl (Nat.le_of_ble_eq_true rfl) ?_
  intro p e s m args below meth c ls Q X hret hP hS hl
  have hl : lv_has ls 3 [(0, .ref (qa 44))] := hl
  have hfr : ∀ j, (j < 44 ∨ 55 ≤ j) → E0 j = E0 j := fun _ _ => rfl
  rw [fX0_waysWithNobodyBent] at hf
  refine lv_iconst (v := 0) X.1 X.2.1 dX0_waysWithNobodyBent_0 (by decide) ?_
  refine lv_istore_n (lv' := [(1, .int 0), (0, .ref (qa 44))]) X.1 X.2.1 dX0_waysWithNobodyBent_1 rfl hl (by decide) rfl (fun ls hl => ?_)
  have lp1 : ∀ (n1 : Nat) (v1_1 : Int32) (wy_h_1 : Nat → Int32) (E : Nat → va_E) (H : Heap) (locs : List Loc) (ls : Array Slot), lp (bX0_waysWithNobodyBent_2 worn_h ld_h men_n st_n) n1 (v1_1, wy_h_1) = some R → va_P D vwCl (WD qa E) H → va_S (gA qa s.heap.size) s.heap H locs → Ha g qa E 44 worn_h few_h bc_h ld_h so_h tr_h be_h wy_h_1 → Mu g qa E 1 men_n md_n day_n drw_n bu_n st_n ki_n we_n wo_n wr_n → (∀ j, (j < 44 ∨ 55 ≤ j) → E j = E0 j) → lv_has ls 3 [(0, .ref (qa 44)), (1, .int v1_1)] → W p l e (rmf 2) s m args below meth c H locs 0 0 Q (F0 m 2 ls []) := by
    intro n1
    induction n1 with
    | zero =>
      intro v1_1 wy_h_1 E H locs ls hf
      exact absurd hf (by intro h; cases h)
    | succ n1 ih1 =>
      intro v1_1 wy_h_1 E H locs ls hf hP hS hG_h hG_n hfr hl
      have hf : bX0_waysWithNobodyBent_2 worn_h ld_h men_n st_n (lp (bX0_waysWithNobodyBent_2 worn_h ld_h men_n st_n) n1) (v1_1, wy_h_1) = some R := hf
      rw [bX0_waysWithNobodyBent_2] at hf
      refine lv_iload_n X.1 X.2.1 dX0_waysWithNobodyBent_2 rfl (lv_at hl 1 rfl) ?_
      refine lv_bipush (v := 64) X.1 X.2.1 dX0_waysWithNobodyBent_3 (by decide) ?_
      refine lv_icmp_ge (tgt := 29) X.1 X.2.1 dX0_waysWithNobodyBent_5 (by decide) (fun c2 => ?_) (fun c2 => ?_)
      · have hf := ifp hf c2
        refine lv_iconst (v := 0) X.1 X.2.1 dX0_waysWithNobodyBent_29 (by decide) ?_
        refine lv_istore_n (lv' := [(1, .int 0), (0, .ref (qa 44))]) X.1 X.2.1 dX0_waysWithNobodyBent_30 rfl hl (by decide) rfl (fun ls hl => ?_)
        have lp3 : ∀ (n3 : Nat) (v1_3 : Int32) (wy_h_3 : Nat → Int32) (E : Nat → va_E) (H : Heap) (locs : List Loc) (ls : Array Slot), lp (bX0_waysWithNobodyBent_31 worn_h ld_h men_n st_n) n3 (v1_3, wy_h_3) = some R → va_P D vwCl (WD qa E) H → va_S (gA qa s.heap.size) s.heap H locs → Ha g qa E 44 worn_h few_h bc_h ld_h so_h tr_h be_h wy_h_3 → Mu g qa E 1 men_n md_n day_n drw_n bu_n st_n ki_n we_n wo_n wr_n → (∀ j, (j < 44 ∨ 55 ≤ j) → E j = E0 j) → lv_has ls 3 [(0, .ref (qa 44)), (1, .int v1_3)] → W p l e (rmf 2) s m args below meth c H locs 0 0 Q (F0 m 31 ls []) := by
          intro n3
          induction n3 with
          | zero =>
            intro v1_3 wy_h_3 E H locs ls hf
            exact absurd hf (by intro h; cases h)
          | succ n3 ih3 =>
            intro v1_3 wy_h_3 E H locs ls hf hP hS hG_h hG_n hfr hl
            have hf : bX0_waysWithNobodyBent_31 worn_h ld_h men_n st_n (lp (bX0_waysWithNobodyBent_31 worn_h ld_h men_n st_n) n3) (v1_3, wy_h_3) = some R := hf
            rw [bX0_waysWithNobodyBent_31] at hf
            refine lv_iload_n X.1 X.2.1 dX0_waysWithNobodyBent_31 rfl (lv_at hl 1 rfl) ?_
            refine lv_aload_n X.1 X.2.1 dX0_waysWithNobodyBent_32 rfl (lv_at hl 0 rfl) ?_
            refine x_get X hP hG_h.1 (by omega) rfl in_X0_waysWithNobodyBent_X0 0 (by decide) (by decide +kernel) rfl rfl dX0_waysWithNobodyBent_33 ?_
            refine x_get X hP hG_n.1 (by omega) rfl in_X0_waysWithNobodyBent_X1 0 (by decide) (by decide +kernel) rfl rfl dX0_waysWithNobodyBent_36 ?_
            refine lv_icmp_ge (tgt := 86) X.1 X.2.1 dX0_waysWithNobodyBent_39 (by decide) (fun c4 => ?_) (fun c4 => ?_)
            · have hf := ifp hf c4
              refine lv_aload_n X.1 X.2.1 dX0_waysWithNobodyBent_86 rfl (lv_at hl 0 rfl) ?_
              refine x_get X hP hG_h.1 (by omega) rfl in_X0_waysWithNobodyBent_X0 6 (by decide) (by decide +kernel) rfl rfl dX0_waysWithNobodyBent_87 ?_
              refine lv_aload_n X.1 X.2.1 dX0_waysWithNobodyBent_90 rfl (lv_at hl 0 rfl) ?_
              refine x_get X hP hG_h.1 (by omega) rfl in_X0_waysWithNobodyBent_X0 2 (by decide) (by decide +kernel) rfl rfl dX0_waysWithNobodyBent_91 ?_
              obtain ⟨hi5, hf⟩ := gin_of hf
              refine x_iald X hP hG_h.2.2.2.2.2.2 (by omega) hi5 dX0_waysWithNobodyBent_94 ?_
              obtain rfl := Option.some.inj hf
              exact hret _ _ _ _ _ _ dX0_waysWithNobodyBent_95 rfl rfl (⟨hG_h, hfr⟩) hP hS
            · have hf := ifn hf c4
              refine lv_aload_n X.1 X.2.1 dX0_waysWithNobodyBent_42 rfl (lv_at hl 0 rfl) ?_
              refine x_get X hP hG_h.1 (by omega) rfl in_X0_waysWithNobodyBent_X0 2 (by decide) (by decide +kernel) rfl rfl dX0_waysWithNobodyBent_43 ?_
              refine lv_istore_n (lv' := [(2, .int worn_h), (0, .ref (qa 44)), (1, .int v1_3)]) X.1 X.2.1 dX0_waysWithNobodyBent_46 rfl hl (by decide) rfl (fun ls hl => ?_)
              have lp6 : ∀ (n6 : Nat) (v2_6 : Int32) (wy_h_6 : Nat → Int32) (E : Nat → va_E) (H : Heap) (locs : List Loc) (ls : Array Slot), lp (bX0_waysWithNobodyBent_47 worn_h ld_h st_n v1_3 (lp (bX0_waysWithNobodyBent_31 worn_h ld_h men_n st_n) n3)) n6 (v2_6, wy_h_6) = some R → va_P D vwCl (WD qa E) H → va_S (gA qa s.heap.size) s.heap H locs → Ha g qa E 44 worn_h few_h bc_h ld_h so_h tr_h be_h wy_h_6 → Mu g qa E 1 men_n md_n day_n drw_n bu_n st_n ki_n we_n wo_n wr_n → (∀ j, (j < 44 ∨ 55 ≤ j) → E j = E0 j) → lv_has ls 3 [(0, .ref (qa 44)), (1, .int v1_3), (2, .int v2_6)] → W p l e (rmf 2) s m args below meth c H locs 0 0 Q (F0 m 47 ls []) := by
                intro n6
                induction n6 with
                | zero =>
                  intro v2_6 wy_h_6 E H locs ls hf
                  exact absurd hf (by intro h; cases h)
                | succ n6 ih6 =>
                  intro v2_6 wy_h_6 E H locs ls hf hP hS hG_h hG_n hfr hl
                  have hf : bX0_waysWithNobodyBent_47 worn_h ld_h st_n v1_3 (lp (bX0_waysWithNobodyBent_31 worn_h ld_h men_n st_n) n3) (lp (bX0_waysWithNobodyBent_47 worn_h ld_h st_n v1_3 (lp (bX0_waysWithNobodyBent_31 worn_h ld_h men_n st_n) n3)) n6) (v2_6, wy_h_6) = some R := hf
                  rw [bX0_waysWithNobodyBent_47] at hf
                  refine lv_iload_n X.1 X.2.1 dX0_waysWithNobodyBent_47 rfl (lv_at hl 2 rfl) ?_
                  refine lv_if_lt (tgt := 80) X.1 X.2.1 dX0_waysWithNobodyBent_48 (by decide) (fun c7 => ?_) (fun c7 => ?_)
                  · have hf := ifp hf c7
                    obtain ⟨x8, ex8, hf⟩ := nm_of hf
                    refine lv_iinc (v := x8) (lv' := [(1, .int x8), (0, .ref (qa 44)), (2, .int v2_6)]) X.1 X.2.1 dX0_waysWithNobodyBent_80 hl (k := 1) rfl (by rw [ex8]; rfl) (by decide) rfl (fun ls hl => ?_)
                    refine lv_goto (tgt := 31) X.1 X.2.1 dX0_waysWithNobodyBent_83 (by decide) ?_
                    exact ih3 x8 wy_h_6 _ _ _ _ hf hP hS hG_h hG_n hfr (lv_sub hl [1, 0] rfl)
                  · have hf := ifn hf c7
                    refine lv_iload_n X.1 X.2.1 dX0_waysWithNobodyBent_51 rfl (lv_at hl 2 rfl) ?_
                    refine lv_aload_n X.1 X.2.1 dX0_waysWithNobodyBent_52 rfl (lv_at hl 0 rfl) ?_
                    refine x_get X hP hG_h.1 (by omega) rfl in_X0_waysWithNobodyBent_X0 2 (by decide) (by decide +kernel) rfl rfl dX0_waysWithNobodyBent_53 ?_
                    refine lv_iconst (v := (-1)) X.1 X.2.1 dX0_waysWithNobodyBent_56 (by decide) ?_
                    refine lv_ixor X.1 X.2.1 dX0_waysWithNobodyBent_57 ?_
                    refine lv_iand X.1 X.2.1 dX0_waysWithNobodyBent_58 ?_
                    refine lv_if_ne (tgt := 74) X.1 X.2.1 dX0_waysWithNobodyBent_59 (by decide) (fun c9 => ?_) (fun c9 => ?_)
                    · have hf := ifn hf c9
                      obtain ⟨x10, ex10, hf⟩ := nm_of hf
                      refine lv_iinc (v := x10) (lv' := [(2, .int x10), (0, .ref (qa 44)), (1, .int v1_3)]) X.1 X.2.1 dX0_waysWithNobodyBent_74 hl (k := 2) rfl (by rw [ex10]; rfl) (by decide) rfl (fun ls hl => ?_)
                      refine lv_goto (tgt := 47) X.1 X.2.1 dX0_waysWithNobodyBent_77 (by decide) ?_
                      exact ih6 x10 wy_h_6 _ _ _ _ hf hP hS hG_h hG_n hfr (lv_sub hl [1, 2, 0] rfl)
                    · have hf := ifp hf c9
                      refine lv_aload_n X.1 X.2.1 dX0_waysWithNobodyBent_62 rfl (lv_at hl 0 rfl) ?_
                      refine x_get X hP hG_h.1 (by omega) rfl in_X0_waysWithNobodyBent_X0 6 (by decide) (by decide +kernel) rfl rfl dX0_waysWithNobodyBent_63 ?_
                      refine lv_iload_n X.1 X.2.1 dX0_waysWithNobodyBent_66 rfl (lv_at hl 2 rfl) ?_
                      refine lv_aload_n X.1 X.2.1 dX0_waysWithNobodyBent_67 rfl (lv_at hl 0 rfl) ?_
                      refine lv_iload_n X.1 X.2.1 dX0_waysWithNobodyBent_68 rfl (lv_at hl 1 rfl) ?_
                      refine lv_iload_n X.1 X.2.1 dX0_waysWithNobodyBent_69 rfl (lv_at hl 2 rfl) ?_
                      obtain ⟨r11, hr11, hf⟩ := bd_of hf
                      refine x_rdVi X hP hS hG_h.1 (by omega) rfl (n := 2) (As := [.int v1_3, .int v2_6]) (ct_X0_waysWith hG_h hG_n hr11) gX0_waysWithNobodyBent_X0_waysWith rfl (by decide +kernel) ⟨by decide, by decide⟩ rfl hl.1 rfl (Nat.le_of_ble_eq_true rfl) dX0_waysWithNobodyBent_70 (fun H locs hP hS => ?_)
                      obtain ⟨hi12, hf⟩ := gin_of hf
                      refine x_iast X hP hS hG_h.2.2.2.2.2.2 (by omega) hi12 dX0_waysWithNobodyBent_73 (fun E H locs h1 hk hP hS => ?_)
                      have hG_h := Ha_set_6 hG_h h1 hk
                      have hG_n := Mu_kept hG_n (fun j h8 h9 => hk j (by omega))
                      have hfr : ∀ j, (j < 44 ∨ 55 ≤ j) → E j = E0 j := fun j o0 => (hk j (by omega)).trans (hfr j o0)
                      obtain ⟨x13, ex13, hf⟩ := nm_of hf
                      refine lv_iinc (v := x13) (lv' := [(2, .int x13), (0, .ref (qa 44)), (1, .int v1_3)]) X.1 X.2.1 dX0_waysWithNobodyBent_74 hl (k := 2) rfl (by rw [ex13]; rfl) (by decide) rfl (fun ls hl => ?_)
                      refine lv_goto (tgt := 47) X.1 X.2.1 dX0_waysWithNobodyBent_77 (by decide) ?_
                      exact ih6 x13 (upd wy_h_6 (Int32.toNatClampNeg v2_6) r11) _ _ _ _ hf hP hS hG_h hG_n hfr (lv_sub hl [1, 2, 0] rfl)
              exact lp6 FU worn_h wy_h_3 _ _ _ _ hf hP hS hG_h hG_n hfr (lv_sub hl [1, 2, 0] rfl)
        exact lp3 FU 0 wy_h_1 _ _ _ _ hf hP hS hG_h hG_n hfr (lv_sub hl [1, 0] rfl)
      · have hf := ifn hf c2
        refine lv_aload_n X.1 X.2.1 dX0_waysWithNobodyBent_8 rfl (lv_at hl 0 rfl) ?_
        refine x_get X hP hG_h.1 (by omega) rfl in_X0_waysWithNobodyBent_X0 6 (by decide) (by decide +kernel) rfl rfl dX0_waysWithNobodyBent_9 ?_
        refine lv_iload_n X.1 X.2.1 dX0_waysWithNobodyBent_12 rfl (lv_at hl 1 rfl) ?_
        refine lv_iload_n X.1 X.2.1 dX0_waysWithNobodyBent_13 rfl (lv_at hl 1 rfl) ?_
        refine lv_if_ne (tgt := 21) X.1 X.2.1 dX0_waysWithNobodyBent_14 (by decide) (fun c14 => ?_) (fun c14 => ?_)
        · have hf := ifn hf c14
          refine lv_iconst (v := 0) X.1 X.2.1 dX0_waysWithNobodyBent_21 (by decide) ?_
          obtain ⟨hi15, hf⟩ := gin_of hf
          refine x_iast X hP hS hG_h.2.2.2.2.2.2 (by omega) hi15 dX0_waysWithNobodyBent_22 (fun E H locs h1 hk hP hS => ?_)
          have hG_h := Ha_set_6 hG_h h1 hk
          have hG_n := Mu_kept hG_n (fun j h8 h9 => hk j (by omega))
          have hfr : ∀ j, (j < 44 ∨ 55 ≤ j) → E j = E0 j := fun j o0 => (hk j (by omega)).trans (hfr j o0)
          obtain ⟨x16, ex16, hf⟩ := nm_of hf
          refine lv_iinc (v := x16) (lv' := [(1, .int x16), (0, .ref (qa 44))]) X.1 X.2.1 dX0_waysWithNobodyBent_23 hl (k := 1) rfl (by rw [ex16]; rfl) (by decide) rfl (fun ls hl => ?_)
          refine lv_goto (tgt := 2) X.1 X.2.1 dX0_waysWithNobodyBent_26 (by decide) ?_
          exact ih1 x16 (upd wy_h_1 (Int32.toNatClampNeg v1_1) 0) _ _ _ _ hf hP hS hG_h hG_n hfr (lv_sub hl [1, 0] rfl)
        · have hf := ifp hf c14
          refine lv_iconst (v := 1) X.1 X.2.1 dX0_waysWithNobodyBent_17 (by decide) ?_
          refine lv_goto (tgt := 22) X.1 X.2.1 dX0_waysWithNobodyBent_18 (by decide) ?_
          obtain ⟨hi17, hf⟩ := gin_of hf
          refine x_iast X hP hS hG_h.2.2.2.2.2.2 (by omega) hi17 dX0_waysWithNobodyBent_22 (fun E H locs h1 hk hP hS => ?_)
          have hG_h := Ha_set_6 hG_h h1 hk
          have hG_n := Mu_kept hG_n (fun j h8 h9 => hk j (by omega))
          have hfr : ∀ j, (j < 44 ∨ 55 ≤ j) → E j = E0 j := fun j o0 => (hk j (by omega)).trans (hfr j o0)
          obtain ⟨x18, ex18, hf⟩ := nm_of hf
          refine lv_iinc (v := x18) (lv' := [(1, .int x18), (0, .ref (qa 44))]) X.1 X.2.1 dX0_waysWithNobodyBent_23 hl (k := 1) rfl (by rw [ex18]; rfl) (by decide) rfl (fun ls hl => ?_)
          refine lv_goto (tgt := 2) X.1 X.2.1 dX0_waysWithNobodyBent_26 (by decide) ?_
          exact ih1 x18 (upd wy_h_1 (Int32.toNatClampNeg v1_1) 1) _ _ _ _ hf hP hS hG_h hG_n hfr (lv_sub hl [1, 0] rfl)
  exact lp1 FU 0 wy_h _ _ _ _ hf hP hS hG_h hG_n hfr (lv_sub hl [1, 0] rfl)
def fX0_wouldWear (p1 : Int32)  (be_h : Nat → Int32) : Option Int32 := if p1 < 0 then (some (-4)) else (if 6 ≤ p1 then (some (-4)) else (gin p1 6 (some (be_h (Int32.toNatClampNeg p1)))))
theorem in_X0_wouldWear_X0 : ∀ w ∈ wsX00, w ∈ wsX0_wouldWear := by decide +kernel
set_option maxHeartbeats 4000000 in
set_option maxRecDepth 100000 in
theorem ct_X0_wouldWear {l : Launch} {D : va_G} {g : Nat → ClassId} {qa : Nat → Nat} {E0 : Nat → va_E} {p1 : Int32} {worn_h : Int32} {few_h : Int32} {bc_h : Int32} {ld_h : Nat → Nat → Int32} {so_h : Nat → Int32} {tr_h : Nat → Int32} {be_h : Nat → Int32} {wy_h : Nat → Int32} (hG_h : Ha g qa E0 44 worn_h few_h bc_h ld_h so_h tr_h be_h wy_h) {R : Int32} (hf : fX0_wouldWear p1 be_h = some R) : MI l yX0_wouldWear wsX0_wouldWear 0 D g qa E0 [.ref (qa 44), .int p1] R (fun E => E = E0) := by
  refine MI.mk (by decide) rfl (Nat.le_of_ble_eq_true rfl) ?_
  intro p e s m args below meth c ls Q X hret hP hS hl
  have hl : lv_has ls 2 [(0, .ref (qa 44)), (1, .int p1)] := hl
  rw [fX0_wouldWear] at hf
  refine lv_iload_n X.1 X.2.1 dX0_wouldWear_0 rfl (lv_at hl 1 rfl) ?_
  refine lv_if_lt (tgt := 19) X.1 X.2.1 dX0_wouldWear_1 (by decide) (fun c1 => ?_) (fun c1 => ?_)
  · have hf := ifp hf c1
    refine lv_bipush (v := (-4)) X.1 X.2.1 dX0_wouldWear_19 (by decide) ?_
    obtain rfl := Option.some.inj hf
    exact hret _ _ _ _ _ _ dX0_wouldWear_21 rfl rfl (rfl) hP hS
  · have hf := ifn hf c1
    refine lv_iload_n X.1 X.2.1 dX0_wouldWear_4 rfl (lv_at hl 1 rfl) ?_
    refine lv_bipush (v := 6) X.1 X.2.1 dX0_wouldWear_5 (by decide) ?_
    refine lv_icmp_ge (tgt := 19) X.1 X.2.1 dX0_wouldWear_7 (by decide) (fun c2 => ?_) (fun c2 => ?_)
    · have hf := ifp hf c2
      refine lv_bipush (v := (-4)) X.1 X.2.1 dX0_wouldWear_19 (by decide) ?_
      obtain rfl := Option.some.inj hf
      exact hret _ _ _ _ _ _ dX0_wouldWear_21 rfl rfl (rfl) hP hS
    · have hf := ifn hf c2
      refine lv_aload_n X.1 X.2.1 dX0_wouldWear_10 rfl (lv_at hl 0 rfl) ?_
      refine x_get X hP hG_h.1 (by omega) rfl in_X0_wouldWear_X0 5 (by decide) (by decide +kernel) rfl rfl dX0_wouldWear_11 ?_
      refine lv_iload_n X.1 X.2.1 dX0_wouldWear_14 rfl (lv_at hl 1 rfl) ?_
      obtain ⟨hi3, hf⟩ := gin_of hf
      refine x_iald X hP hG_h.2.2.2.2.2.1 (by omega) hi3 dX0_wouldWear_15 ?_
      refine lv_goto (tgt := 21) X.1 X.2.1 dX0_wouldWear_16 (by decide) ?_
      obtain rfl := Option.some.inj hf
      exact hret _ _ _ _ _ _ dX0_wouldWear_21 rfl rfl (rfl) hP hS
