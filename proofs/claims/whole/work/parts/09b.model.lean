theorem dX6_addMan_0 : decode cX6_addMan 0 = .ok (.aload_n 0, 1) := by decide +kernel
theorem dX6_addMan_1 : decode cX6_addMan 1 = .ok (.bipush 19, 2) := by decide +kernel
theorem dX6_addMan_3 : decode cX6_addMan 3 = .ok (.iaload, 1) := by decide +kernel
theorem dX6_addMan_4 : decode cX6_addMan 4 = .ok (.istore_n 2, 1) := by decide +kernel
theorem dX6_addMan_5 : decode cX6_addMan 5 = .ok (.aload_n 0, 1) := by decide +kernel
theorem dX6_addMan_6 : decode cX6_addMan 6 = .ok (.bipush 20, 2) := by decide +kernel
theorem dX6_addMan_8 : decode cX6_addMan 8 = .ok (.iload_n 2, 1) := by decide +kernel
theorem dX6_addMan_9 : decode cX6_addMan 9 = .ok (.iadd, 1) := by decide +kernel
theorem dX6_addMan_10 : decode cX6_addMan 10 = .ok (.iload_n 1, 1) := by decide +kernel
theorem dX6_addMan_11 : decode cX6_addMan 11 = .ok (.iastore, 1) := by decide +kernel
theorem dX6_addMan_12 : decode cX6_addMan 12 = .ok (.aload_n 0, 1) := by decide +kernel
theorem dX6_addMan_13 : decode cX6_addMan 13 = .ok (.iconst 2, 1) := by decide +kernel
theorem dX6_addMan_14 : decode cX6_addMan 14 = .ok (.iload_n 2, 1) := by decide +kernel
theorem dX6_addMan_15 : decode cX6_addMan 15 = .ok (.iadd, 1) := by decide +kernel
theorem dX6_addMan_16 : decode cX6_addMan 16 = .ok (.iload_n 1, 1) := by decide +kernel
theorem dX6_addMan_17 : decode cX6_addMan 17 = .ok (.iastore, 1) := by decide +kernel
theorem dX6_addMan_18 : decode cX6_addMan 18 = .ok (.aload_n 0, 1) := by decide +kernel
theorem dX6_addMan_19 : decode cX6_addMan 19 = .ok (.bipush 19, 2) := by decide +kernel
theorem dX6_addMan_21 : decode cX6_addMan 21 = .ok (.dup2, 1) := by decide +kernel
theorem dX6_addMan_22 : decode cX6_addMan 22 = .ok (.iaload, 1) := by decide +kernel
theorem dX6_addMan_23 : decode cX6_addMan 23 = .ok (.iconst 1, 1) := by decide +kernel
theorem dX6_addMan_24 : decode cX6_addMan 24 = .ok (.iadd, 1) := by decide +kernel
theorem dX6_addMan_25 : decode cX6_addMan 25 = .ok (.iastore, 1) := by decide +kernel
theorem dX6_addMan_26 : decode cX6_addMan 26 = .ok (.iload_n 2, 1) := by decide +kernel
theorem dX6_addMan_27 : decode cX6_addMan 27 = .ok (.ireturn, 1) := by decide +kernel
theorem dX6_addMedal_0 : decode cX6_addMedal 0 = .ok (.aload_n 0, 1) := by decide +kernel
theorem dX6_addMedal_1 : decode cX6_addMedal 1 = .ok (.bipush 25, 2) := by decide +kernel
theorem dX6_addMedal_3 : decode cX6_addMedal 3 = .ok (.iaload, 1) := by decide +kernel
theorem dX6_addMedal_4 : decode cX6_addMedal 4 = .ok (.istore 4, 2) := by decide +kernel
theorem dX6_addMedal_6 : decode cX6_addMedal 6 = .ok (.aload_n 0, 1) := by decide +kernel
theorem dX6_addMedal_7 : decode cX6_addMedal 7 = .ok (.bipush 26, 2) := by decide +kernel
theorem dX6_addMedal_9 : decode cX6_addMedal 9 = .ok (.iload 4, 2) := by decide +kernel
theorem dX6_addMedal_11 : decode cX6_addMedal 11 = .ok (.iadd, 1) := by decide +kernel
theorem dX6_addMedal_12 : decode cX6_addMedal 12 = .ok (.iload_n 1, 1) := by decide +kernel
theorem dX6_addMedal_13 : decode cX6_addMedal 13 = .ok (.iastore, 1) := by decide +kernel
theorem dX6_addMedal_14 : decode cX6_addMedal 14 = .ok (.aload_n 0, 1) := by decide +kernel
theorem dX6_addMedal_15 : decode cX6_addMedal 15 = .ok (.bipush 7, 2) := by decide +kernel
theorem dX6_addMedal_17 : decode cX6_addMedal 17 = .ok (.iload 4, 2) := by decide +kernel
theorem dX6_addMedal_19 : decode cX6_addMedal 19 = .ok (.iadd, 1) := by decide +kernel
theorem dX6_addMedal_20 : decode cX6_addMedal 20 = .ok (.iload_n 2, 1) := by decide +kernel
theorem dX6_addMedal_21 : decode cX6_addMedal 21 = .ok (.iastore, 1) := by decide +kernel
theorem dX6_addMedal_22 : decode cX6_addMedal 22 = .ok (.aload_n 0, 1) := by decide +kernel
theorem dX6_addMedal_23 : decode cX6_addMedal 23 = .ok (.bipush 32, 2) := by decide +kernel
theorem dX6_addMedal_25 : decode cX6_addMedal 25 = .ok (.iload 4, 2) := by decide +kernel
theorem dX6_addMedal_27 : decode cX6_addMedal 27 = .ok (.iadd, 1) := by decide +kernel
theorem dX6_addMedal_28 : decode cX6_addMedal 28 = .ok (.iload_n 3, 1) := by decide +kernel
theorem dX6_addMedal_29 : decode cX6_addMedal 29 = .ok (.iastore, 1) := by decide +kernel
theorem dX6_addMedal_30 : decode cX6_addMedal 30 = .ok (.aload_n 0, 1) := by decide +kernel
theorem dX6_addMedal_31 : decode cX6_addMedal 31 = .ok (.bipush 13, 2) := by decide +kernel
theorem dX6_addMedal_33 : decode cX6_addMedal 33 = .ok (.iload 4, 2) := by decide +kernel
theorem dX6_addMedal_35 : decode cX6_addMedal 35 = .ok (.iadd, 1) := by decide +kernel
theorem dX6_addMedal_36 : decode cX6_addMedal 36 = .ok (.bipush (-4), 2) := by decide +kernel
theorem dX6_addMedal_38 : decode cX6_addMedal 38 = .ok (.iastore, 1) := by decide +kernel
theorem dX6_addMedal_39 : decode cX6_addMedal 39 = .ok (.aload_n 0, 1) := by decide +kernel
theorem dX6_addMedal_40 : decode cX6_addMedal 40 = .ok (.bipush 25, 2) := by decide +kernel
theorem dX6_addMedal_42 : decode cX6_addMedal 42 = .ok (.dup2, 1) := by decide +kernel
theorem dX6_addMedal_43 : decode cX6_addMedal 43 = .ok (.iaload, 1) := by decide +kernel
theorem dX6_addMedal_44 : decode cX6_addMedal 44 = .ok (.iconst 1, 1) := by decide +kernel
theorem dX6_addMedal_45 : decode cX6_addMedal 45 = .ok (.iadd, 1) := by decide +kernel
theorem dX6_addMedal_46 : decode cX6_addMedal 46 = .ok (.iastore, 1) := by decide +kernel
theorem dX6_addMedal_47 : decode cX6_addMedal 47 = .ok (.iload 4, 2) := by decide +kernel
theorem dX6_addMedal_49 : decode cX6_addMedal 49 = .ok (.ireturn, 1) := by decide +kernel
set_option maxRecDepth 20000 in
theorem ggX6_man_X6_in : GoodIn wsX6_man wsX6_in := goodIn_r _ [5] (by decide +kernel) (by decide +kernel)
set_option maxRecDepth 20000 in
theorem gX6_man_X6_in : GoodIn wsX6_man (va_wsS RX6 38 yX6_in wsX6_in) := goodIn_app (goodIn_of _ (by decide +kernel)) ggX6_man_X6_in
set_option maxRecDepth 20000 in
theorem ggX6_man_X6_addMan : GoodIn wsX6_man wsX6_addMan := goodIn_r _ [8] (by decide +kernel) (by decide +kernel)
set_option maxRecDepth 20000 in
theorem gX6_man_X6_addMan : GoodIn wsX6_man (va_wsS RX6 42 yX6_addMan wsX6_addMan) := goodIn_app (goodIn_of _ (by decide +kernel)) ggX6_man_X6_addMan
theorem dX6_man_0 : decode cX6_man 0 = .ok (.iload_n 1, 1) := by decide +kernel
theorem dX6_man_1 : decode cX6_man 1 = .ok (.iconst 1, 1) := by decide +kernel
theorem dX6_man_2 : decode cX6_man 2 = .ok (.bipush 60, 2) := by decide +kernel
theorem dX6_man_4 : decode cX6_man 4 = .ok (.invokestatic 38, 3) := by decide +kernel
theorem dX6_man_7 : decode cX6_man 7 = .ok (.ifCond .ne 5, 3) := by decide +kernel
theorem dX6_man_10 : decode cX6_man 10 = .ok (.iconst (-1), 1) := by decide +kernel
theorem dX6_man_11 : decode cX6_man 11 = .ok (.ireturn, 1) := by decide +kernel
theorem dX6_man_12 : decode cX6_man 12 = .ok (.aload_n 0, 1) := by decide +kernel
theorem dX6_man_13 : decode cX6_man 13 = .ok (.getfield 23, 3) := by decide +kernel
theorem dX6_man_16 : decode cX6_man 16 = .ok (.bipush 19, 2) := by decide +kernel
theorem dX6_man_18 : decode cX6_man 18 = .ok (.iaload, 1) := by decide +kernel
theorem dX6_man_19 : decode cX6_man 19 = .ok (.iconst 5, 1) := by decide +kernel
theorem dX6_man_20 : decode cX6_man 20 = .ok (.if_icmp .ne 6, 3) := by decide +kernel
theorem dX6_man_23 : decode cX6_man 23 = .ok (.bipush (-3), 2) := by decide +kernel
theorem dX6_man_25 : decode cX6_man 25 = .ok (.ireturn, 1) := by decide +kernel
theorem dX6_man_26 : decode cX6_man 26 = .ok (.aload_n 0, 1) := by decide +kernel
theorem dX6_man_27 : decode cX6_man 27 = .ok (.getfield 23, 3) := by decide +kernel
theorem dX6_man_30 : decode cX6_man 30 = .ok (.bipush 38, 2) := by decide +kernel
theorem dX6_man_32 : decode cX6_man 32 = .ok (.iconst 0, 1) := by decide +kernel
theorem dX6_man_33 : decode cX6_man 33 = .ok (.iastore, 1) := by decide +kernel
theorem dX6_man_34 : decode cX6_man 34 = .ok (.aload_n 0, 1) := by decide +kernel
theorem dX6_man_35 : decode cX6_man 35 = .ok (.getfield 23, 3) := by decide +kernel
theorem dX6_man_38 : decode cX6_man 38 = .ok (.iload_n 1, 1) := by decide +kernel
theorem dX6_man_39 : decode cX6_man 39 = .ok (.invokestatic 42, 3) := by decide +kernel
theorem dX6_man_42 : decode cX6_man 42 = .ok (.ireturn, 1) := by decide +kernel
set_option maxRecDepth 20000 in
theorem ggX6_medal_X6_in : GoodIn wsX6_medal wsX6_in := goodIn_r _ [5] (by decide +kernel) (by decide +kernel)
set_option maxRecDepth 20000 in
theorem gX6_medal_X6_in : GoodIn wsX6_medal (va_wsS RX6 38 yX6_in wsX6_in) := goodIn_app (goodIn_of _ (by decide +kernel)) ggX6_medal_X6_in
set_option maxRecDepth 20000 in
theorem ggX6_medal_X6_isMan : GoodIn wsX6_medal wsX6_isMan := goodIn_r _ [9, 1, 2, 3, 4, 5, 13, 14, 15, 16, 17, 18, 19, 20, 21, 22, 23, 24, 25, 26, 27] (by decide +kernel) (by decide +kernel)
set_option maxRecDepth 20000 in
theorem gX6_medal_X6_isMan : GoodIn wsX6_medal (wsV RX6 46 RX6 yX6_isMan wsX6_isMan) := goodIn_app (goodIn_of _ (by decide +kernel)) ggX6_medal_X6_isMan
set_option maxRecDepth 20000 in
theorem ggX6_medal_X6_addMedal : GoodIn wsX6_medal wsX6_addMedal := goodIn_r _ [12] (by decide +kernel) (by decide +kernel)
set_option maxRecDepth 20000 in
theorem gX6_medal_X6_addMedal : GoodIn wsX6_medal (va_wsS RX6 50 yX6_addMedal wsX6_addMedal) := goodIn_app (goodIn_of _ (by decide +kernel)) ggX6_medal_X6_addMedal
theorem dX6_medal_0 : decode cX6_medal 0 = .ok (.iload_n 1, 1) := by decide +kernel
theorem dX6_medal_1 : decode cX6_medal 1 = .ok (.iconst 0, 1) := by decide +kernel
theorem dX6_medal_2 : decode cX6_medal 2 = .ok (.iconst 4, 1) := by decide +kernel
theorem dX6_medal_3 : decode cX6_medal 3 = .ok (.invokestatic 38, 3) := by decide +kernel
theorem dX6_medal_6 : decode cX6_medal 6 = .ok (.ifCond .eq 21, 3) := by decide +kernel
theorem dX6_medal_9 : decode cX6_medal 9 = .ok (.iload_n 2, 1) := by decide +kernel
theorem dX6_medal_10 : decode cX6_medal 10 = .ok (.iconst 1, 1) := by decide +kernel
theorem dX6_medal_11 : decode cX6_medal 11 = .ok (.bipush 20, 2) := by decide +kernel
theorem dX6_medal_13 : decode cX6_medal 13 = .ok (.invokestatic 38, 3) := by decide +kernel
theorem dX6_medal_16 : decode cX6_medal 16 = .ok (.ifCond .eq 11, 3) := by decide +kernel
theorem dX6_medal_19 : decode cX6_medal 19 = .ok (.aload_n 0, 1) := by decide +kernel
theorem dX6_medal_20 : decode cX6_medal 20 = .ok (.iload_n 3, 1) := by decide +kernel
theorem dX6_medal_21 : decode cX6_medal 21 = .ok (.invokevirtual 46, 3) := by decide +kernel
theorem dX6_medal_24 : decode cX6_medal 24 = .ok (.ifCond .ne 5, 3) := by decide +kernel
theorem dX6_medal_27 : decode cX6_medal 27 = .ok (.iconst (-1), 1) := by decide +kernel
theorem dX6_medal_28 : decode cX6_medal 28 = .ok (.ireturn, 1) := by decide +kernel
theorem dX6_medal_29 : decode cX6_medal 29 = .ok (.aload_n 0, 1) := by decide +kernel
theorem dX6_medal_30 : decode cX6_medal 30 = .ok (.getfield 23, 3) := by decide +kernel
theorem dX6_medal_33 : decode cX6_medal 33 = .ok (.bipush 25, 2) := by decide +kernel
theorem dX6_medal_35 : decode cX6_medal 35 = .ok (.iaload, 1) := by decide +kernel
theorem dX6_medal_36 : decode cX6_medal 36 = .ok (.bipush 6, 2) := by decide +kernel
theorem dX6_medal_38 : decode cX6_medal 38 = .ok (.if_icmp .ne 6, 3) := by decide +kernel
theorem dX6_medal_41 : decode cX6_medal 41 = .ok (.bipush (-3), 2) := by decide +kernel
theorem dX6_medal_43 : decode cX6_medal 43 = .ok (.ireturn, 1) := by decide +kernel
theorem dX6_medal_44 : decode cX6_medal 44 = .ok (.aload_n 0, 1) := by decide +kernel
theorem dX6_medal_45 : decode cX6_medal 45 = .ok (.getfield 23, 3) := by decide +kernel
theorem dX6_medal_48 : decode cX6_medal 48 = .ok (.bipush 38, 2) := by decide +kernel
theorem dX6_medal_50 : decode cX6_medal 50 = .ok (.iconst 0, 1) := by decide +kernel
theorem dX6_medal_51 : decode cX6_medal 51 = .ok (.iastore, 1) := by decide +kernel
theorem dX6_medal_52 : decode cX6_medal 52 = .ok (.aload_n 0, 1) := by decide +kernel
theorem dX6_medal_53 : decode cX6_medal 53 = .ok (.getfield 23, 3) := by decide +kernel
theorem dX6_medal_56 : decode cX6_medal 56 = .ok (.iload_n 1, 1) := by decide +kernel
theorem dX6_medal_57 : decode cX6_medal 57 = .ok (.iload_n 2, 1) := by decide +kernel
theorem dX6_medal_58 : decode cX6_medal 58 = .ok (.iload_n 3, 1) := by decide +kernel
theorem dX6_medal_59 : decode cX6_medal 59 = .ok (.invokestatic 50, 3) := by decide +kernel
theorem dX6_medal_62 : decode cX6_medal 62 = .ok (.ireturn, 1) := by decide +kernel
theorem dX6_woundsOf_0 : decode cX6_woundsOf 0 = .ok (.iconst 0, 1) := by decide +kernel
theorem dX6_woundsOf_1 : decode cX6_woundsOf 1 = .ok (.istore_n 2, 1) := by decide +kernel
theorem dX6_woundsOf_2 : decode cX6_woundsOf 2 = .ok (.iconst 0, 1) := by decide +kernel
theorem dX6_woundsOf_3 : decode cX6_woundsOf 3 = .ok (.istore_n 3, 1) := by decide +kernel
theorem dX6_woundsOf_4 : decode cX6_woundsOf 4 = .ok (.iload_n 3, 1) := by decide +kernel
theorem dX6_woundsOf_5 : decode cX6_woundsOf 5 = .ok (.aload_n 0, 1) := by decide +kernel
theorem dX6_woundsOf_6 : decode cX6_woundsOf 6 = .ok (.getfield 23, 3) := by decide +kernel
theorem dX6_woundsOf_9 : decode cX6_woundsOf 9 = .ok (.bipush 25, 2) := by decide +kernel
theorem dX6_woundsOf_11 : decode cX6_woundsOf 11 = .ok (.iaload, 1) := by decide +kernel
theorem dX6_woundsOf_12 : decode cX6_woundsOf 12 = .ok (.if_icmp .ge 32, 3) := by decide +kernel
theorem dX6_woundsOf_15 : decode cX6_woundsOf 15 = .ok (.iload_n 2, 1) := by decide +kernel
theorem dX6_woundsOf_16 : decode cX6_woundsOf 16 = .ok (.aload_n 0, 1) := by decide +kernel
theorem dX6_woundsOf_17 : decode cX6_woundsOf 17 = .ok (.getfield 23, 3) := by decide +kernel
theorem dX6_woundsOf_20 : decode cX6_woundsOf 20 = .ok (.bipush 32, 2) := by decide +kernel
theorem dX6_woundsOf_22 : decode cX6_woundsOf 22 = .ok (.iload_n 3, 1) := by decide +kernel
theorem dX6_woundsOf_23 : decode cX6_woundsOf 23 = .ok (.iadd, 1) := by decide +kernel
theorem dX6_woundsOf_24 : decode cX6_woundsOf 24 = .ok (.iaload, 1) := by decide +kernel
theorem dX6_woundsOf_25 : decode cX6_woundsOf 25 = .ok (.iload_n 1, 1) := by decide +kernel
theorem dX6_woundsOf_26 : decode cX6_woundsOf 26 = .ok (.if_icmp .ne 9, 3) := by decide +kernel
theorem dX6_woundsOf_29 : decode cX6_woundsOf 29 = .ok (.iconst 1, 1) := by decide +kernel
theorem dX6_woundsOf_30 : decode cX6_woundsOf 30 = .ok (.iload_n 3, 1) := by decide +kernel
theorem dX6_woundsOf_31 : decode cX6_woundsOf 31 = .ok (.ishl, 1) := by decide +kernel
theorem dX6_woundsOf_32 : decode cX6_woundsOf 32 = .ok (.goto 4, 3) := by decide +kernel
theorem dX6_woundsOf_35 : decode cX6_woundsOf 35 = .ok (.iconst 0, 1) := by decide +kernel
theorem dX6_woundsOf_36 : decode cX6_woundsOf 36 = .ok (.ior, 1) := by decide +kernel
theorem dX6_woundsOf_37 : decode cX6_woundsOf 37 = .ok (.istore_n 2, 1) := by decide +kernel
theorem dX6_woundsOf_38 : decode cX6_woundsOf 38 = .ok (.iinc 3 1, 3) := by decide +kernel
theorem dX6_woundsOf_41 : decode cX6_woundsOf 41 = .ok (.goto (-37), 3) := by decide +kernel
theorem dX6_woundsOf_44 : decode cX6_woundsOf 44 = .ok (.iload_n 2, 1) := by decide +kernel
theorem dX6_woundsOf_45 : decode cX6_woundsOf 45 = .ok (.ireturn, 1) := by decide +kernel
set_option maxRecDepth 20000 in
theorem ggX6_of_X6_isMan : GoodIn wsX6_of wsX6_isMan := goodIn_r _ [6, 1, 7, 8, 5, 9, 29, 30, 31, 32, 33, 34, 35, 36, 37, 38, 39, 40, 41, 42, 43] (by decide +kernel) (by decide +kernel)
set_option maxRecDepth 20000 in
theorem gX6_of_X6_isMan : GoodIn wsX6_of (wsV RX6 46 RX6 yX6_isMan wsX6_isMan) := goodIn_app (goodIn_of _ (by decide +kernel)) ggX6_of_X6_isMan
set_option maxRecDepth 20000 in
theorem ggX6_of_X6_load : GoodIn wsX6_of wsX6_load := goodIn_r _ [12, 13, 14, 5, 15, 16, 17, 18, 19, 20, 21] (by decide +kernel) (by decide +kernel)
set_option maxRecDepth 20000 in
theorem gX6_of_X6_load : GoodIn wsX6_of (va_wsS RX6 64 yX6_load wsX6_load) := goodIn_app (goodIn_of _ (by decide +kernel)) ggX6_of_X6_load
set_option maxRecDepth 20000 in
theorem ggX6_of_X6_isBent : GoodIn wsX6_of wsX6_isBent := goodIn_r _ [24, 10, 11, 5, 12, 13, 14, 15, 16, 17, 18, 19, 20, 21] (by decide +kernel) (by decide +kernel)
set_option maxRecDepth 20000 in
theorem gX6_of_X6_isBent : GoodIn wsX6_of (va_wsS RX6 67 yX6_isBent wsX6_isBent) := goodIn_app (goodIn_of _ (by decide +kernel)) ggX6_of_X6_isBent
set_option maxRecDepth 20000 in
theorem ggX6_of_X6_wornBy : GoodIn wsX6_of wsX6_wornBy := goodIn_r _ [18] (by decide +kernel) (by decide +kernel)
set_option maxRecDepth 20000 in
theorem gX6_of_X6_wornBy : GoodIn wsX6_of (va_wsS RX6 54 yX6_wornBy wsX6_wornBy) := goodIn_app (goodIn_of _ (by decide +kernel)) ggX6_of_X6_wornBy
set_option maxRecDepth 20000 in
theorem ggX6_of_X6_woundsOf : GoodIn wsX6_of wsX6_woundsOf := goodIn_r _ [28, 1, 29, 30, 31, 32, 33, 34, 35, 36, 37, 38, 39, 40, 41, 42, 43] (by decide +kernel) (by decide +kernel)
set_option maxRecDepth 20000 in
theorem gX6_of_X6_woundsOf : GoodIn wsX6_of (wsV RX6 71 RX6 yX6_woundsOf wsX6_woundsOf) := goodIn_app (goodIn_of _ (by decide +kernel)) ggX6_of_X6_woundsOf
theorem dX6_of_0 : decode cX6_of 0 = .ok (.aload_n 0, 1) := by decide +kernel
theorem dX6_of_1 : decode cX6_of 1 = .ok (.iload_n 1, 1) := by decide +kernel
theorem dX6_of_2 : decode cX6_of 2 = .ok (.invokevirtual 46, 3) := by decide +kernel
theorem dX6_of_5 : decode cX6_of 5 = .ok (.ifCond .ne 5, 3) := by decide +kernel
theorem dX6_of_8 : decode cX6_of 8 = .ok (.iconst (-1), 1) := by decide +kernel
theorem dX6_of_9 : decode cX6_of 9 = .ok (.ireturn, 1) := by decide +kernel
theorem dX6_of_10 : decode cX6_of 10 = .ok (.iload_n 2, 1) := by decide +kernel
theorem dX6_of_11 : decode cX6_of 11 = .ok (.tableswitch 97 0 5 #[37, 47, 56, 65, 82, 91], 37) := by decide +kernel
theorem dX6_of_48 : decode cX6_of 48 = .ok (.aload_n 0, 1) := by decide +kernel
theorem dX6_of_49 : decode cX6_of 49 = .ok (.getfield 23, 3) := by decide +kernel
theorem dX6_of_52 : decode cX6_of 52 = .ok (.bipush 20, 2) := by decide +kernel
theorem dX6_of_54 : decode cX6_of 54 = .ok (.iload_n 1, 1) := by decide +kernel
theorem dX6_of_55 : decode cX6_of 55 = .ok (.iadd, 1) := by decide +kernel
theorem dX6_of_56 : decode cX6_of 56 = .ok (.iaload, 1) := by decide +kernel
theorem dX6_of_57 : decode cX6_of 57 = .ok (.ireturn, 1) := by decide +kernel
theorem dX6_of_58 : decode cX6_of 58 = .ok (.aload_n 0, 1) := by decide +kernel
theorem dX6_of_59 : decode cX6_of 59 = .ok (.getfield 23, 3) := by decide +kernel
theorem dX6_of_62 : decode cX6_of 62 = .ok (.iconst 2, 1) := by decide +kernel
theorem dX6_of_63 : decode cX6_of 63 = .ok (.iload_n 1, 1) := by decide +kernel
theorem dX6_of_64 : decode cX6_of 64 = .ok (.iadd, 1) := by decide +kernel
theorem dX6_of_65 : decode cX6_of 65 = .ok (.iaload, 1) := by decide +kernel
theorem dX6_of_66 : decode cX6_of 66 = .ok (.ireturn, 1) := by decide +kernel
theorem dX6_of_67 : decode cX6_of 67 = .ok (.aload_n 0, 1) := by decide +kernel
theorem dX6_of_68 : decode cX6_of 68 = .ok (.getfield 23, 3) := by decide +kernel
theorem dX6_of_71 : decode cX6_of 71 = .ok (.iload_n 1, 1) := by decide +kernel
theorem dX6_of_72 : decode cX6_of 72 = .ok (.invokestatic 64, 3) := by decide +kernel
theorem dX6_of_75 : decode cX6_of 75 = .ok (.ireturn, 1) := by decide +kernel
theorem dX6_of_76 : decode cX6_of 76 = .ok (.aload_n 0, 1) := by decide +kernel
theorem dX6_of_77 : decode cX6_of 77 = .ok (.getfield 23, 3) := by decide +kernel
theorem dX6_of_80 : decode cX6_of 80 = .ok (.iload_n 1, 1) := by decide +kernel
theorem dX6_of_81 : decode cX6_of 81 = .ok (.invokestatic 67, 3) := by decide +kernel
theorem dX6_of_84 : decode cX6_of 84 = .ok (.ifCond .eq 7, 3) := by decide +kernel
theorem dX6_of_87 : decode cX6_of 87 = .ok (.iconst 1, 1) := by decide +kernel
theorem dX6_of_88 : decode cX6_of 88 = .ok (.goto 4, 3) := by decide +kernel
theorem dX6_of_91 : decode cX6_of 91 = .ok (.iconst 0, 1) := by decide +kernel
theorem dX6_of_92 : decode cX6_of 92 = .ok (.ireturn, 1) := by decide +kernel
theorem dX6_of_93 : decode cX6_of 93 = .ok (.aload_n 0, 1) := by decide +kernel
theorem dX6_of_94 : decode cX6_of 94 = .ok (.getfield 23, 3) := by decide +kernel
theorem dX6_of_97 : decode cX6_of 97 = .ok (.iload_n 1, 1) := by decide +kernel
theorem dX6_of_98 : decode cX6_of 98 = .ok (.invokestatic 54, 3) := by decide +kernel
theorem dX6_of_101 : decode cX6_of 101 = .ok (.ireturn, 1) := by decide +kernel
theorem dX6_of_102 : decode cX6_of 102 = .ok (.aload_n 0, 1) := by decide +kernel
theorem dX6_of_103 : decode cX6_of 103 = .ok (.iload_n 1, 1) := by decide +kernel
theorem dX6_of_104 : decode cX6_of 104 = .ok (.invokevirtual 71, 3) := by decide +kernel
theorem dX6_of_107 : decode cX6_of 107 = .ok (.ireturn, 1) := by decide +kernel
theorem dX6_of_108 : decode cX6_of 108 = .ok (.iconst (-1), 1) := by decide +kernel
theorem dX6_of_109 : decode cX6_of 109 = .ok (.ireturn, 1) := by decide +kernel
set_option maxRecDepth 20000 in
theorem ggX6_type_X6_in : GoodIn wsX6_type wsX6_in := goodIn_r _ [6] (by decide +kernel) (by decide +kernel)
set_option maxRecDepth 20000 in
theorem gX6_type_X6_in : GoodIn wsX6_type (va_wsS RX6 38 yX6_in wsX6_in) := goodIn_app (goodIn_of _ (by decide +kernel)) ggX6_type_X6_in
theorem dX6_type_0 : decode cX6_type 0 = .ok (.iload_n 1, 1) := by decide +kernel
theorem dX6_type_1 : decode cX6_type 1 = .ok (.bipush 32, 2) := by decide +kernel
theorem dX6_type_3 : decode cX6_type 3 = .ok (.bipush 126, 2) := by decide +kernel
theorem dX6_type_5 : decode cX6_type 5 = .ok (.invokestatic 38, 3) := by decide +kernel
theorem dX6_type_8 : decode cX6_type 8 = .ok (.ifCond .ne 5, 3) := by decide +kernel
theorem dX6_type_11 : decode cX6_type 11 = .ok (.iconst (-1), 1) := by decide +kernel
theorem dX6_type_12 : decode cX6_type 12 = .ok (.ireturn, 1) := by decide +kernel
theorem dX6_type_13 : decode cX6_type 13 = .ok (.aload_n 0, 1) := by decide +kernel
theorem dX6_type_14 : decode cX6_type 14 = .ok (.getfield 77, 3) := by decide +kernel
theorem dX6_type_17 : decode cX6_type 17 = .ok (.bipush 90, 2) := by decide +kernel
theorem dX6_type_19 : decode cX6_type 19 = .ok (.if_icmp .ne 6, 3) := by decide +kernel
theorem dX6_type_22 : decode cX6_type 22 = .ok (.bipush (-3), 2) := by decide +kernel
theorem dX6_type_24 : decode cX6_type 24 = .ok (.ireturn, 1) := by decide +kernel
theorem dX6_type_25 : decode cX6_type 25 = .ok (.aload_n 0, 1) := by decide +kernel
theorem dX6_type_26 : decode cX6_type 26 = .ok (.getfield 20, 3) := by decide +kernel
theorem dX6_type_29 : decode cX6_type 29 = .ok (.aload_n 0, 1) := by decide +kernel
theorem dX6_type_30 : decode cX6_type 30 = .ok (.getfield 77, 3) := by decide +kernel
theorem dX6_type_33 : decode cX6_type 33 = .ok (.iload_n 1, 1) := by decide +kernel
theorem dX6_type_34 : decode cX6_type 34 = .ok (.iastore, 1) := by decide +kernel
theorem dX6_type_35 : decode cX6_type 35 = .ok (.aload_n 0, 1) := by decide +kernel
theorem dX6_type_36 : decode cX6_type 36 = .ok (.dup, 1) := by decide +kernel
theorem dX6_type_37 : decode cX6_type 37 = .ok (.getfield 77, 3) := by decide +kernel
theorem dX6_type_40 : decode cX6_type 40 = .ok (.iconst 1, 1) := by decide +kernel
theorem dX6_type_41 : decode cX6_type 41 = .ok (.iadd, 1) := by decide +kernel
theorem dX6_type_42 : decode cX6_type 42 = .ok (.putfield 77, 3) := by decide +kernel
theorem dX6_type_45 : decode cX6_type 45 = .ok (.aload_n 0, 1) := by decide +kernel
theorem dX6_type_46 : decode cX6_type 46 = .ok (.getfield 77, 3) := by decide +kernel
theorem dX6_type_49 : decode cX6_type 49 = .ok (.ireturn, 1) := by decide +kernel
theorem dX6_peek_0 : decode cX6_peek 0 = .ok (.aload_n 0, 1) := by decide +kernel
theorem dX6_peek_1 : decode cX6_peek 1 = .ok (.getfield 81, 3) := by decide +kernel
theorem dX6_peek_4 : decode cX6_peek 4 = .ok (.aload_n 0, 1) := by decide +kernel
theorem dX6_peek_5 : decode cX6_peek 5 = .ok (.getfield 77, 3) := by decide +kernel
theorem dX6_peek_8 : decode cX6_peek 8 = .ok (.if_icmp .ge 30, 3) := by decide +kernel
theorem dX6_peek_11 : decode cX6_peek 11 = .ok (.aload_n 0, 1) := by decide +kernel
theorem dX6_peek_12 : decode cX6_peek 12 = .ok (.getfield 20, 3) := by decide +kernel
theorem dX6_peek_15 : decode cX6_peek 15 = .ok (.aload_n 0, 1) := by decide +kernel
theorem dX6_peek_16 : decode cX6_peek 16 = .ok (.getfield 81, 3) := by decide +kernel
theorem dX6_peek_19 : decode cX6_peek 19 = .ok (.iaload, 1) := by decide +kernel
theorem dX6_peek_20 : decode cX6_peek 20 = .ok (.bipush 32, 2) := by decide +kernel
theorem dX6_peek_22 : decode cX6_peek 22 = .ok (.if_icmp .ne 16, 3) := by decide +kernel
theorem dX6_peek_25 : decode cX6_peek 25 = .ok (.aload_n 0, 1) := by decide +kernel
theorem dX6_peek_26 : decode cX6_peek 26 = .ok (.dup, 1) := by decide +kernel
theorem dX6_peek_27 : decode cX6_peek 27 = .ok (.getfield 81, 3) := by decide +kernel
theorem dX6_peek_30 : decode cX6_peek 30 = .ok (.iconst 1, 1) := by decide +kernel
theorem dX6_peek_31 : decode cX6_peek 31 = .ok (.iadd, 1) := by decide +kernel
theorem dX6_peek_32 : decode cX6_peek 32 = .ok (.putfield 81, 3) := by decide +kernel
theorem dX6_peek_35 : decode cX6_peek 35 = .ok (.goto (-35), 3) := by decide +kernel
theorem dX6_peek_38 : decode cX6_peek 38 = .ok (.aload_n 0, 1) := by decide +kernel
theorem dX6_peek_39 : decode cX6_peek 39 = .ok (.getfield 81, 3) := by decide +kernel
theorem dX6_peek_42 : decode cX6_peek 42 = .ok (.aload_n 0, 1) := by decide +kernel
theorem dX6_peek_43 : decode cX6_peek 43 = .ok (.getfield 77, 3) := by decide +kernel
theorem dX6_peek_46 : decode cX6_peek 46 = .ok (.if_icmp .ge 15, 3) := by decide +kernel
theorem dX6_peek_49 : decode cX6_peek 49 = .ok (.aload_n 0, 1) := by decide +kernel
theorem dX6_peek_50 : decode cX6_peek 50 = .ok (.getfield 20, 3) := by decide +kernel
theorem dX6_peek_53 : decode cX6_peek 53 = .ok (.aload_n 0, 1) := by decide +kernel
theorem dX6_peek_54 : decode cX6_peek 54 = .ok (.getfield 81, 3) := by decide +kernel
theorem dX6_peek_57 : decode cX6_peek 57 = .ok (.iaload, 1) := by decide +kernel
theorem dX6_peek_58 : decode cX6_peek 58 = .ok (.goto 4, 3) := by decide +kernel
theorem dX6_peek_61 : decode cX6_peek 61 = .ok (.iconst 0, 1) := by decide +kernel
theorem dX6_peek_62 : decode cX6_peek 62 = .ok (.ireturn, 1) := by decide +kernel
set_option maxRecDepth 20000 in
theorem ggX6_isSign_X6_peek : GoodIn wsX6_isSign wsX6_peek := goodIn_r _ [6, 1, 7, 8, 9, 10, 11, 12, 13, 14, 15, 16, 17, 18, 19, 20, 21, 22, 23] (by decide +kernel) (by decide +kernel)
set_option maxRecDepth 20000 in
theorem gX6_isSign_X6_peek : GoodIn wsX6_isSign (wsV RX6 84 RX6 yX6_peek wsX6_peek) := goodIn_app (goodIn_of _ (by decide +kernel)) ggX6_isSign_X6_peek
theorem dX6_isSign_0 : decode cX6_isSign 0 = .ok (.aload_n 0, 1) := by decide +kernel
theorem dX6_isSign_1 : decode cX6_isSign 1 = .ok (.invokevirtual 84, 3) := by decide +kernel
theorem dX6_isSign_4 : decode cX6_isSign 4 = .ok (.iload_n 1, 1) := by decide +kernel
theorem dX6_isSign_5 : decode cX6_isSign 5 = .ok (.if_icmp .eq 5, 3) := by decide +kernel
theorem dX6_isSign_8 : decode cX6_isSign 8 = .ok (.iconst 0, 1) := by decide +kernel
theorem dX6_isSign_9 : decode cX6_isSign 9 = .ok (.ireturn, 1) := by decide +kernel
theorem dX6_isSign_10 : decode cX6_isSign 10 = .ok (.aload_n 0, 1) := by decide +kernel
theorem dX6_isSign_11 : decode cX6_isSign 11 = .ok (.dup, 1) := by decide +kernel
theorem dX6_isSign_12 : decode cX6_isSign 12 = .ok (.getfield 81, 3) := by decide +kernel
theorem dX6_isSign_15 : decode cX6_isSign 15 = .ok (.iconst 1, 1) := by decide +kernel
theorem dX6_isSign_16 : decode cX6_isSign 16 = .ok (.iadd, 1) := by decide +kernel
theorem dX6_isSign_17 : decode cX6_isSign 17 = .ok (.putfield 81, 3) := by decide +kernel
theorem dX6_isSign_20 : decode cX6_isSign 20 = .ok (.iconst 1, 1) := by decide +kernel
theorem dX6_isSign_21 : decode cX6_isSign 21 = .ok (.ireturn, 1) := by decide +kernel
set_option maxRecDepth 20000 in
theorem ggX6_isDigit_X6_peek : GoodIn wsX6_isDigit wsX6_peek := goodIn_r _ [7, 2, 8, 9, 13, 14, 15, 16, 17, 18, 19, 20, 21, 22, 23, 24, 25, 26, 27] (by decide +kernel) (by decide +kernel)
set_option maxRecDepth 20000 in
theorem gX6_isDigit_X6_peek : GoodIn wsX6_isDigit (wsV RX6 84 RX6 yX6_peek wsX6_peek) := goodIn_app (goodIn_of _ (by decide +kernel)) ggX6_isDigit_X6_peek
set_option maxRecDepth 20000 in
theorem ggX6_isDigit_X6_in : GoodIn wsX6_isDigit wsX6_in := goodIn_r _ [12] (by decide +kernel) (by decide +kernel)
set_option maxRecDepth 20000 in
theorem gX6_isDigit_X6_in : GoodIn wsX6_isDigit (va_wsS RX6 38 yX6_in wsX6_in) := goodIn_app (goodIn_of _ (by decide +kernel)) ggX6_isDigit_X6_in
theorem dX6_isDigit_0 : decode cX6_isDigit 0 = .ok (.aload_n 0, 1) := by decide +kernel
theorem dX6_isDigit_1 : decode cX6_isDigit 1 = .ok (.aload_n 0, 1) := by decide +kernel
theorem dX6_isDigit_2 : decode cX6_isDigit 2 = .ok (.invokevirtual 84, 3) := by decide +kernel
theorem dX6_isDigit_5 : decode cX6_isDigit 5 = .ok (.bipush 48, 2) := by decide +kernel
theorem dX6_isDigit_7 : decode cX6_isDigit 7 = .ok (.isub, 1) := by decide +kernel
theorem dX6_isDigit_8 : decode cX6_isDigit 8 = .ok (.putfield 88, 3) := by decide +kernel
theorem dX6_isDigit_11 : decode cX6_isDigit 11 = .ok (.aload_n 0, 1) := by decide +kernel
theorem dX6_isDigit_12 : decode cX6_isDigit 12 = .ok (.getfield 88, 3) := by decide +kernel
theorem dX6_isDigit_15 : decode cX6_isDigit 15 = .ok (.iload_n 1, 1) := by decide +kernel
theorem dX6_isDigit_16 : decode cX6_isDigit 16 = .ok (.iload_n 2, 1) := by decide +kernel
theorem dX6_isDigit_17 : decode cX6_isDigit 17 = .ok (.invokestatic 38, 3) := by decide +kernel
theorem dX6_isDigit_20 : decode cX6_isDigit 20 = .ok (.ifCond .ne 5, 3) := by decide +kernel
theorem dX6_isDigit_23 : decode cX6_isDigit 23 = .ok (.iconst 0, 1) := by decide +kernel
theorem dX6_isDigit_24 : decode cX6_isDigit 24 = .ok (.ireturn, 1) := by decide +kernel
theorem dX6_isDigit_25 : decode cX6_isDigit 25 = .ok (.aload_n 0, 1) := by decide +kernel
theorem dX6_isDigit_26 : decode cX6_isDigit 26 = .ok (.dup, 1) := by decide +kernel
theorem dX6_isDigit_27 : decode cX6_isDigit 27 = .ok (.getfield 81, 3) := by decide +kernel
theorem dX6_isDigit_30 : decode cX6_isDigit 30 = .ok (.iconst 1, 1) := by decide +kernel
theorem dX6_isDigit_31 : decode cX6_isDigit 31 = .ok (.iadd, 1) := by decide +kernel
theorem dX6_isDigit_32 : decode cX6_isDigit 32 = .ok (.putfield 81, 3) := by decide +kernel
theorem dX6_isDigit_35 : decode cX6_isDigit 35 = .ok (.iconst 1, 1) := by decide +kernel
theorem dX6_isDigit_36 : decode cX6_isDigit 36 = .ok (.ireturn, 1) := by decide +kernel
set_option maxRecDepth 20000 in
theorem ggX6_isNumber_X6_isDigit : GoodIn wsX6_isNumber wsX6_isDigit := goodIn_r _ [9, 2, 1, 10, 11, 12, 8, 13, 3, 4, 14, 15, 16, 17, 18, 19, 20, 21, 22, 23, 24, 25, 26, 27, 28, 29, 30, 31] (by decide +kernel) (by decide +kernel)
set_option maxRecDepth 20000 in
theorem gX6_isNumber_X6_isDigit : GoodIn wsX6_isNumber (wsV RX6 91 RX6 yX6_isDigit wsX6_isDigit) := goodIn_app (goodIn_of _ (by decide +kernel)) ggX6_isNumber_X6_isDigit
set_option maxRecDepth 20000 in
theorem ggX6_isNumber_X6_in : GoodIn wsX6_isNumber wsX6_in := goodIn_r _ [16] (by decide +kernel) (by decide +kernel)
set_option maxRecDepth 20000 in
theorem gX6_isNumber_X6_in : GoodIn wsX6_isNumber (va_wsS RX6 38 yX6_in wsX6_in) := goodIn_app (goodIn_of _ (by decide +kernel)) ggX6_isNumber_X6_in
theorem dX6_isNumber_0 : decode cX6_isNumber 0 = .ok (.aload_n 0, 1) := by decide +kernel
theorem dX6_isNumber_1 : decode cX6_isNumber 1 = .ok (.iconst 0, 1) := by decide +kernel
theorem dX6_isNumber_2 : decode cX6_isNumber 2 = .ok (.bipush 9, 2) := by decide +kernel
theorem dX6_isNumber_4 : decode cX6_isNumber 4 = .ok (.invokevirtual 91, 3) := by decide +kernel
theorem dX6_isNumber_7 : decode cX6_isNumber 7 = .ok (.ifCond .ne 5, 3) := by decide +kernel
theorem dX6_isNumber_10 : decode cX6_isNumber 10 = .ok (.iconst 0, 1) := by decide +kernel
theorem dX6_isNumber_11 : decode cX6_isNumber 11 = .ok (.ireturn, 1) := by decide +kernel
theorem dX6_isNumber_12 : decode cX6_isNumber 12 = .ok (.aload_n 0, 1) := by decide +kernel
theorem dX6_isNumber_13 : decode cX6_isNumber 13 = .ok (.getfield 81, 3) := by decide +kernel
theorem dX6_isNumber_16 : decode cX6_isNumber 16 = .ok (.iconst 1, 1) := by decide +kernel
theorem dX6_isNumber_17 : decode cX6_isNumber 17 = .ok (.isub, 1) := by decide +kernel
theorem dX6_isNumber_18 : decode cX6_isNumber 18 = .ok (.istore_n 3, 1) := by decide +kernel
theorem dX6_isNumber_19 : decode cX6_isNumber 19 = .ok (.aload_n 0, 1) := by decide +kernel
theorem dX6_isNumber_20 : decode cX6_isNumber 20 = .ok (.getfield 88, 3) := by decide +kernel
theorem dX6_isNumber_23 : decode cX6_isNumber 23 = .ok (.istore 4, 2) := by decide +kernel
theorem dX6_isNumber_25 : decode cX6_isNumber 25 = .ok (.aload_n 0, 1) := by decide +kernel
theorem dX6_isNumber_26 : decode cX6_isNumber 26 = .ok (.getfield 81, 3) := by decide +kernel
theorem dX6_isNumber_29 : decode cX6_isNumber 29 = .ok (.aload_n 0, 1) := by decide +kernel
theorem dX6_isNumber_30 : decode cX6_isNumber 30 = .ok (.getfield 77, 3) := by decide +kernel
theorem dX6_isNumber_33 : decode cX6_isNumber 33 = .ok (.if_icmp .ge 52, 3) := by decide +kernel
theorem dX6_isNumber_36 : decode cX6_isNumber 36 = .ok (.aload_n 0, 1) := by decide +kernel
theorem dX6_isNumber_37 : decode cX6_isNumber 37 = .ok (.getfield 20, 3) := by decide +kernel
theorem dX6_isNumber_40 : decode cX6_isNumber 40 = .ok (.aload_n 0, 1) := by decide +kernel
theorem dX6_isNumber_41 : decode cX6_isNumber 41 = .ok (.getfield 81, 3) := by decide +kernel
theorem dX6_isNumber_44 : decode cX6_isNumber 44 = .ok (.iaload, 1) := by decide +kernel
theorem dX6_isNumber_45 : decode cX6_isNumber 45 = .ok (.bipush 48, 2) := by decide +kernel
theorem dX6_isNumber_47 : decode cX6_isNumber 47 = .ok (.bipush 57, 2) := by decide +kernel
theorem dX6_isNumber_49 : decode cX6_isNumber 49 = .ok (.invokestatic 38, 3) := by decide +kernel
theorem dX6_isNumber_52 : decode cX6_isNumber 52 = .ok (.ifCond .eq 33, 3) := by decide +kernel
theorem dX6_isNumber_55 : decode cX6_isNumber 55 = .ok (.bipush 10, 2) := by decide +kernel
theorem dX6_isNumber_57 : decode cX6_isNumber 57 = .ok (.iload 4, 2) := by decide +kernel
theorem dX6_isNumber_59 : decode cX6_isNumber 59 = .ok (.imul, 1) := by decide +kernel
theorem dX6_isNumber_60 : decode cX6_isNumber 60 = .ok (.aload_n 0, 1) := by decide +kernel
theorem dX6_isNumber_61 : decode cX6_isNumber 61 = .ok (.getfield 20, 3) := by decide +kernel
theorem dX6_isNumber_64 : decode cX6_isNumber 64 = .ok (.aload_n 0, 1) := by decide +kernel
theorem dX6_isNumber_65 : decode cX6_isNumber 65 = .ok (.getfield 81, 3) := by decide +kernel
theorem dX6_isNumber_68 : decode cX6_isNumber 68 = .ok (.iaload, 1) := by decide +kernel
theorem dX6_isNumber_69 : decode cX6_isNumber 69 = .ok (.iadd, 1) := by decide +kernel
theorem dX6_isNumber_70 : decode cX6_isNumber 70 = .ok (.bipush 48, 2) := by decide +kernel
theorem dX6_isNumber_72 : decode cX6_isNumber 72 = .ok (.isub, 1) := by decide +kernel
theorem dX6_isNumber_73 : decode cX6_isNumber 73 = .ok (.istore 4, 2) := by decide +kernel
theorem dX6_isNumber_75 : decode cX6_isNumber 75 = .ok (.aload_n 0, 1) := by decide +kernel
theorem dX6_isNumber_76 : decode cX6_isNumber 76 = .ok (.dup, 1) := by decide +kernel
theorem dX6_isNumber_77 : decode cX6_isNumber 77 = .ok (.getfield 81, 3) := by decide +kernel
theorem dX6_isNumber_80 : decode cX6_isNumber 80 = .ok (.iconst 1, 1) := by decide +kernel
theorem dX6_isNumber_81 : decode cX6_isNumber 81 = .ok (.iadd, 1) := by decide +kernel
theorem dX6_isNumber_82 : decode cX6_isNumber 82 = .ok (.putfield 81, 3) := by decide +kernel
theorem dX6_isNumber_85 : decode cX6_isNumber 85 = .ok (.aload_n 0, 1) := by decide +kernel
theorem dX6_isNumber_86 : decode cX6_isNumber 86 = .ok (.iload 4, 2) := by decide +kernel
theorem dX6_isNumber_88 : decode cX6_isNumber 88 = .ok (.putfield 88, 3) := by decide +kernel
theorem dX6_isNumber_91 : decode cX6_isNumber 91 = .ok (.iload 4, 2) := by decide +kernel
theorem dX6_isNumber_93 : decode cX6_isNumber 93 = .ok (.iload_n 1, 1) := by decide +kernel
theorem dX6_isNumber_94 : decode cX6_isNumber 94 = .ok (.iload_n 2, 1) := by decide +kernel
theorem dX6_isNumber_95 : decode cX6_isNumber 95 = .ok (.invokestatic 38, 3) := by decide +kernel
theorem dX6_isNumber_98 : decode cX6_isNumber 98 = .ok (.ifCond .ne 10, 3) := by decide +kernel
theorem dX6_isNumber_101 : decode cX6_isNumber 101 = .ok (.aload_n 0, 1) := by decide +kernel
theorem dX6_isNumber_102 : decode cX6_isNumber 102 = .ok (.iload_n 3, 1) := by decide +kernel
theorem dX6_isNumber_103 : decode cX6_isNumber 103 = .ok (.putfield 81, 3) := by decide +kernel
theorem dX6_isNumber_106 : decode cX6_isNumber 106 = .ok (.iconst 0, 1) := by decide +kernel
theorem dX6_isNumber_107 : decode cX6_isNumber 107 = .ok (.ireturn, 1) := by decide +kernel
theorem dX6_isNumber_108 : decode cX6_isNumber 108 = .ok (.aload_n 0, 1) := by decide +kernel
theorem dX6_isNumber_109 : decode cX6_isNumber 109 = .ok (.getfield 81, 3) := by decide +kernel
theorem dX6_isNumber_112 : decode cX6_isNumber 112 = .ok (.aload_n 0, 1) := by decide +kernel
theorem dX6_isNumber_113 : decode cX6_isNumber 113 = .ok (.getfield 77, 3) := by decide +kernel
theorem dX6_isNumber_116 : decode cX6_isNumber 116 = .ok (.if_icmp .eq 22, 3) := by decide +kernel
theorem dX6_isNumber_119 : decode cX6_isNumber 119 = .ok (.aload_n 0, 1) := by decide +kernel
theorem dX6_isNumber_120 : decode cX6_isNumber 120 = .ok (.getfield 20, 3) := by decide +kernel
theorem dX6_isNumber_123 : decode cX6_isNumber 123 = .ok (.aload_n 0, 1) := by decide +kernel
theorem dX6_isNumber_124 : decode cX6_isNumber 124 = .ok (.getfield 81, 3) := by decide +kernel
theorem dX6_isNumber_127 : decode cX6_isNumber 127 = .ok (.iaload, 1) := by decide +kernel
theorem dX6_isNumber_128 : decode cX6_isNumber 128 = .ok (.bipush 48, 2) := by decide +kernel
theorem dX6_isNumber_130 : decode cX6_isNumber 130 = .ok (.bipush 57, 2) := by decide +kernel
theorem dX6_isNumber_132 : decode cX6_isNumber 132 = .ok (.invokestatic 38, 3) := by decide +kernel
theorem dX6_isNumber_135 : decode cX6_isNumber 135 = .ok (.ifCond .ne 7, 3) := by decide +kernel
theorem dX6_isNumber_138 : decode cX6_isNumber 138 = .ok (.iconst 1, 1) := by decide +kernel
theorem dX6_isNumber_139 : decode cX6_isNumber 139 = .ok (.goto 4, 3) := by decide +kernel
theorem dX6_isNumber_142 : decode cX6_isNumber 142 = .ok (.iconst 0, 1) := by decide +kernel
theorem dX6_isNumber_143 : decode cX6_isNumber 143 = .ok (.ireturn, 1) := by decide +kernel
theorem dX6_kindBy_0 : decode cX6_kindBy 0 = .ok (.iload_n 0, 1) := by decide +kernel
theorem dX6_kindBy_1 : decode cX6_kindBy 1 = .ok (.bipush 98, 2) := by decide +kernel
theorem dX6_kindBy_3 : decode cX6_kindBy 3 = .ok (.if_icmp .ne 7, 3) := by decide +kernel
theorem dX6_kindBy_6 : decode cX6_kindBy 6 = .ok (.iconst 0, 1) := by decide +kernel
theorem dX6_kindBy_7 : decode cX6_kindBy 7 = .ok (.goto 44, 3) := by decide +kernel
theorem dX6_kindBy_10 : decode cX6_kindBy 10 = .ok (.iload_n 0, 1) := by decide +kernel
theorem dX6_kindBy_11 : decode cX6_kindBy 11 = .ok (.bipush 114, 2) := by decide +kernel
theorem dX6_kindBy_13 : decode cX6_kindBy 13 = .ok (.if_icmp .ne 7, 3) := by decide +kernel
theorem dX6_kindBy_16 : decode cX6_kindBy 16 = .ok (.iconst 1, 1) := by decide +kernel
theorem dX6_kindBy_17 : decode cX6_kindBy 17 = .ok (.goto 34, 3) := by decide +kernel
theorem dX6_kindBy_20 : decode cX6_kindBy 20 = .ok (.iload_n 0, 1) := by decide +kernel
theorem dX6_kindBy_21 : decode cX6_kindBy 21 = .ok (.bipush 102, 2) := by decide +kernel
theorem dX6_kindBy_23 : decode cX6_kindBy 23 = .ok (.if_icmp .ne 7, 3) := by decide +kernel
theorem dX6_kindBy_26 : decode cX6_kindBy 26 = .ok (.iconst 2, 1) := by decide +kernel
theorem dX6_kindBy_27 : decode cX6_kindBy 27 = .ok (.goto 24, 3) := by decide +kernel
theorem dX6_kindBy_30 : decode cX6_kindBy 30 = .ok (.iload_n 0, 1) := by decide +kernel
theorem dX6_kindBy_31 : decode cX6_kindBy 31 = .ok (.bipush 112, 2) := by decide +kernel
theorem dX6_kindBy_33 : decode cX6_kindBy 33 = .ok (.if_icmp .ne 7, 3) := by decide +kernel
theorem dX6_kindBy_36 : decode cX6_kindBy 36 = .ok (.iconst 3, 1) := by decide +kernel
theorem dX6_kindBy_37 : decode cX6_kindBy 37 = .ok (.goto 14, 3) := by decide +kernel
theorem dX6_kindBy_40 : decode cX6_kindBy 40 = .ok (.iload_n 0, 1) := by decide +kernel
theorem dX6_kindBy_41 : decode cX6_kindBy 41 = .ok (.bipush 109, 2) := by decide +kernel
theorem dX6_kindBy_43 : decode cX6_kindBy 43 = .ok (.if_icmp .ne 7, 3) := by decide +kernel
theorem dX6_kindBy_46 : decode cX6_kindBy 46 = .ok (.iconst 4, 1) := by decide +kernel
theorem dX6_kindBy_47 : decode cX6_kindBy 47 = .ok (.goto 4, 3) := by decide +kernel
theorem dX6_kindBy_50 : decode cX6_kindBy 50 = .ok (.iconst (-1), 1) := by decide +kernel
theorem dX6_kindBy_51 : decode cX6_kindBy 51 = .ok (.ireturn, 1) := by decide +kernel
set_option maxRecDepth 20000 in
theorem ggX6_isManItem_X6_isNumber : GoodIn wsX6_isManItem wsX6_isNumber := goodIn_r _ [7, 8, 2, 9, 10, 11, 12, 13, 6, 14, 15, 16, 17, 18, 19, 20, 21, 29, 30, 31, 32, 33, 34, 35, 36, 37, 38, 39, 40, 41, 42, 43] (by decide +kernel) (by decide +kernel)
set_option maxRecDepth 20000 in
theorem gX6_isManItem_X6_isNumber : GoodIn wsX6_isManItem (wsV RX6 95 RX6 yX6_isNumber wsX6_isNumber) := goodIn_app (goodIn_of _ (by decide +kernel)) ggX6_isManItem_X6_isNumber
set_option maxRecDepth 20000 in
theorem ggX6_isManItem_X6_addMan : GoodIn wsX6_isManItem wsX6_addMan := goodIn_r _ [24] (by decide +kernel) (by decide +kernel)
set_option maxRecDepth 20000 in
theorem gX6_isManItem_X6_addMan : GoodIn wsX6_isManItem (va_wsS RX6 42 yX6_addMan wsX6_addMan) := goodIn_app (goodIn_of _ (by decide +kernel)) ggX6_isManItem_X6_addMan
set_option maxRecDepth 20000 in
theorem ggX6_isManItem_X6_isSign : GoodIn wsX6_isManItem wsX6_isSign := goodIn_r _ [28, 8, 15, 16, 17, 6, 18, 9, 10, 29, 30, 31, 32, 33, 34, 35, 36, 37, 38, 39, 40, 41, 42, 43] (by decide +kernel) (by decide +kernel)
set_option maxRecDepth 20000 in
theorem gX6_isManItem_X6_isSign : GoodIn wsX6_isManItem (wsV RX6 98 RX6 yX6_isSign wsX6_isSign) := goodIn_app (goodIn_of _ (by decide +kernel)) ggX6_isManItem_X6_isSign
theorem dX6_isManItem_0 : decode cX6_isManItem 0 = .ok (.aload_n 0, 1) := by decide +kernel
theorem dX6_isManItem_1 : decode cX6_isManItem 1 = .ok (.iconst 1, 1) := by decide +kernel
theorem dX6_isManItem_2 : decode cX6_isManItem 2 = .ok (.bipush 60, 2) := by decide +kernel
theorem dX6_isManItem_4 : decode cX6_isManItem 4 = .ok (.invokevirtual 95, 3) := by decide +kernel
theorem dX6_isManItem_7 : decode cX6_isManItem 7 = .ok (.ifCond .ne 5, 3) := by decide +kernel
theorem dX6_isManItem_10 : decode cX6_isManItem 10 = .ok (.iconst 0, 1) := by decide +kernel
theorem dX6_isManItem_11 : decode cX6_isManItem 11 = .ok (.ireturn, 1) := by decide +kernel
theorem dX6_isManItem_12 : decode cX6_isManItem 12 = .ok (.aload_n 0, 1) := by decide +kernel
theorem dX6_isManItem_13 : decode cX6_isManItem 13 = .ok (.getfield 29, 3) := by decide +kernel
theorem dX6_isManItem_16 : decode cX6_isManItem 16 = .ok (.aload_n 0, 1) := by decide +kernel
theorem dX6_isManItem_17 : decode cX6_isManItem 17 = .ok (.getfield 88, 3) := by decide +kernel
theorem dX6_isManItem_20 : decode cX6_isManItem 20 = .ok (.invokestatic 42, 3) := by decide +kernel
theorem dX6_isManItem_23 : decode cX6_isManItem 23 = .ok (.istore_n 1, 1) := by decide +kernel
theorem dX6_isManItem_24 : decode cX6_isManItem 24 = .ok (.aload_n 0, 1) := by decide +kernel
theorem dX6_isManItem_25 : decode cX6_isManItem 25 = .ok (.bipush 45, 2) := by decide +kernel
theorem dX6_isManItem_27 : decode cX6_isManItem 27 = .ok (.invokevirtual 98, 3) := by decide +kernel
theorem dX6_isManItem_30 : decode cX6_isManItem 30 = .ok (.ifCond .eq 37, 3) := by decide +kernel
theorem dX6_isManItem_33 : decode cX6_isManItem 33 = .ok (.aload_n 0, 1) := by decide +kernel
theorem dX6_isManItem_34 : decode cX6_isManItem 34 = .ok (.iconst 0, 1) := by decide +kernel
theorem dX6_isManItem_35 : decode cX6_isManItem 35 = .ok (.aload_n 0, 1) := by decide +kernel
theorem dX6_isManItem_36 : decode cX6_isManItem 36 = .ok (.getfield 29, 3) := by decide +kernel
theorem dX6_isManItem_39 : decode cX6_isManItem 39 = .ok (.bipush 20, 2) := by decide +kernel
theorem dX6_isManItem_41 : decode cX6_isManItem 41 = .ok (.iload_n 1, 1) := by decide +kernel
theorem dX6_isManItem_42 : decode cX6_isManItem 42 = .ok (.iadd, 1) := by decide +kernel
theorem dX6_isManItem_43 : decode cX6_isManItem 43 = .ok (.iaload, 1) := by decide +kernel
theorem dX6_isManItem_44 : decode cX6_isManItem 44 = .ok (.invokevirtual 95, 3) := by decide +kernel
theorem dX6_isManItem_47 : decode cX6_isManItem 47 = .ok (.ifCond .ne 5, 3) := by decide +kernel
theorem dX6_isManItem_50 : decode cX6_isManItem 50 = .ok (.iconst 0, 1) := by decide +kernel
theorem dX6_isManItem_51 : decode cX6_isManItem 51 = .ok (.ireturn, 1) := by decide +kernel
theorem dX6_isManItem_52 : decode cX6_isManItem 52 = .ok (.aload_n 0, 1) := by decide +kernel
theorem dX6_isManItem_53 : decode cX6_isManItem 53 = .ok (.getfield 29, 3) := by decide +kernel
theorem dX6_isManItem_56 : decode cX6_isManItem 56 = .ok (.iconst 2, 1) := by decide +kernel
theorem dX6_isManItem_57 : decode cX6_isManItem 57 = .ok (.iload_n 1, 1) := by decide +kernel
theorem dX6_isManItem_58 : decode cX6_isManItem 58 = .ok (.iadd, 1) := by decide +kernel
theorem dX6_isManItem_59 : decode cX6_isManItem 59 = .ok (.dup2, 1) := by decide +kernel
theorem dX6_isManItem_60 : decode cX6_isManItem 60 = .ok (.iaload, 1) := by decide +kernel
theorem dX6_isManItem_61 : decode cX6_isManItem 61 = .ok (.aload_n 0, 1) := by decide +kernel
theorem dX6_isManItem_62 : decode cX6_isManItem 62 = .ok (.getfield 88, 3) := by decide +kernel
theorem dX6_isManItem_65 : decode cX6_isManItem 65 = .ok (.isub, 1) := by decide +kernel
theorem dX6_isManItem_66 : decode cX6_isManItem 66 = .ok (.iastore, 1) := by decide +kernel
theorem dX6_isManItem_67 : decode cX6_isManItem 67 = .ok (.iconst 1, 1) := by decide +kernel
theorem dX6_isManItem_68 : decode cX6_isManItem 68 = .ok (.ireturn, 1) := by decide +kernel
set_option maxRecDepth 20000 in
theorem ggX6_isMedalItem_X6_peek : GoodIn wsX6_isMedalItem wsX6_peek := goodIn_r _ [8, 1, 9, 10, 32, 33, 34, 35, 36, 37, 38, 39, 40, 41, 42, 43, 44, 45, 46] (by decide +kernel) (by decide +kernel)
set_option maxRecDepth 20000 in
theorem gX6_isMedalItem_X6_peek : GoodIn wsX6_isMedalItem (wsV RX6 84 RX6 yX6_peek wsX6_peek) := goodIn_app (goodIn_of _ (by decide +kernel)) ggX6_isMedalItem_X6_peek
set_option maxRecDepth 20000 in
theorem ggX6_isMedalItem_X6_kindBy : GoodIn wsX6_isMedalItem wsX6_kindBy := goodIn_r _ [13] (by decide +kernel) (by decide +kernel)
set_option maxRecDepth 20000 in
theorem gX6_isMedalItem_X6_kindBy : GoodIn wsX6_isMedalItem (va_wsS RX6 101 yX6_kindBy wsX6_kindBy) := goodIn_app (goodIn_of _ (by decide +kernel)) ggX6_isMedalItem_X6_kindBy
set_option maxRecDepth 20000 in
theorem ggX6_isMedalItem_X6_isNumber : GoodIn wsX6_isMedalItem wsX6_isNumber := goodIn_r _ [17, 1, 2, 9, 10, 18, 19, 20, 7, 21, 4, 5, 6, 8, 22, 23, 24, 32, 33, 34, 35, 36, 37, 38, 39, 40, 41, 42, 43, 44, 45, 46] (by decide +kernel) (by decide +kernel)
set_option maxRecDepth 20000 in
theorem gX6_isMedalItem_X6_isNumber : GoodIn wsX6_isMedalItem (wsV RX6 95 RX6 yX6_isNumber wsX6_isNumber) := goodIn_app (goodIn_of _ (by decide +kernel)) ggX6_isMedalItem_X6_isNumber
set_option maxRecDepth 20000 in
theorem ggX6_isMedalItem_X6_isSign : GoodIn wsX6_isMedalItem wsX6_isSign := goodIn_r _ [28, 1, 4, 5, 6, 7, 8, 9, 10, 32, 33, 34, 35, 36, 37, 38, 39, 40, 41, 42, 43, 44, 45, 46] (by decide +kernel) (by decide +kernel)
set_option maxRecDepth 20000 in
theorem gX6_isMedalItem_X6_isSign : GoodIn wsX6_isMedalItem (wsV RX6 98 RX6 yX6_isSign wsX6_isSign) := goodIn_app (goodIn_of _ (by decide +kernel)) ggX6_isMedalItem_X6_isSign
set_option maxRecDepth 20000 in
theorem ggX6_isMedalItem_X6_isDigit : GoodIn wsX6_isMedalItem wsX6_isDigit := goodIn_r _ [21, 2, 1, 4, 5, 6, 7, 8, 9, 10, 22, 23, 24, 32, 33, 34, 35, 36, 37, 38, 39, 40, 41, 42, 43, 44, 45, 46] (by decide +kernel) (by decide +kernel)
set_option maxRecDepth 20000 in
theorem gX6_isMedalItem_X6_isDigit : GoodIn wsX6_isMedalItem (wsV RX6 91 RX6 yX6_isDigit wsX6_isDigit) := goodIn_app (goodIn_of _ (by decide +kernel)) ggX6_isMedalItem_X6_isDigit
set_option maxRecDepth 20000 in
theorem ggX6_isMedalItem_X6_addMedal : GoodIn wsX6_isMedalItem wsX6_addMedal := goodIn_r _ [31] (by decide +kernel) (by decide +kernel)
set_option maxRecDepth 20000 in
theorem gX6_isMedalItem_X6_addMedal : GoodIn wsX6_isMedalItem (va_wsS RX6 50 yX6_addMedal wsX6_addMedal) := goodIn_app (goodIn_of _ (by decide +kernel)) ggX6_isMedalItem_X6_addMedal
theorem dX6_isMedalItem_0 : decode cX6_isMedalItem 0 = .ok (.aload_n 0, 1) := by decide +kernel
theorem dX6_isMedalItem_1 : decode cX6_isMedalItem 1 = .ok (.invokevirtual 84, 3) := by decide +kernel
theorem dX6_isMedalItem_4 : decode cX6_isMedalItem 4 = .ok (.invokestatic 101, 3) := by decide +kernel
theorem dX6_isMedalItem_7 : decode cX6_isMedalItem 7 = .ok (.istore_n 1, 1) := by decide +kernel
theorem dX6_isMedalItem_8 : decode cX6_isMedalItem 8 = .ok (.iload_n 1, 1) := by decide +kernel
theorem dX6_isMedalItem_9 : decode cX6_isMedalItem 9 = .ok (.ifCond .ge 5, 3) := by decide +kernel
theorem dX6_isMedalItem_12 : decode cX6_isMedalItem 12 = .ok (.iconst 0, 1) := by decide +kernel
theorem dX6_isMedalItem_13 : decode cX6_isMedalItem 13 = .ok (.ireturn, 1) := by decide +kernel
theorem dX6_isMedalItem_14 : decode cX6_isMedalItem 14 = .ok (.aload_n 0, 1) := by decide +kernel
theorem dX6_isMedalItem_15 : decode cX6_isMedalItem 15 = .ok (.dup, 1) := by decide +kernel
theorem dX6_isMedalItem_16 : decode cX6_isMedalItem 16 = .ok (.getfield 81, 3) := by decide +kernel
theorem dX6_isMedalItem_19 : decode cX6_isMedalItem 19 = .ok (.iconst 1, 1) := by decide +kernel
theorem dX6_isMedalItem_20 : decode cX6_isMedalItem 20 = .ok (.iadd, 1) := by decide +kernel
theorem dX6_isMedalItem_21 : decode cX6_isMedalItem 21 = .ok (.putfield 81, 3) := by decide +kernel
theorem dX6_isMedalItem_24 : decode cX6_isMedalItem 24 = .ok (.aload_n 0, 1) := by decide +kernel
theorem dX6_isMedalItem_25 : decode cX6_isMedalItem 25 = .ok (.iconst 1, 1) := by decide +kernel
theorem dX6_isMedalItem_26 : decode cX6_isMedalItem 26 = .ok (.bipush 20, 2) := by decide +kernel
theorem dX6_isMedalItem_28 : decode cX6_isMedalItem 28 = .ok (.invokevirtual 95, 3) := by decide +kernel
theorem dX6_isMedalItem_31 : decode cX6_isMedalItem 31 = .ok (.ifCond .ne 5, 3) := by decide +kernel
theorem dX6_isMedalItem_34 : decode cX6_isMedalItem 34 = .ok (.iconst 0, 1) := by decide +kernel
theorem dX6_isMedalItem_35 : decode cX6_isMedalItem 35 = .ok (.ireturn, 1) := by decide +kernel
theorem dX6_isMedalItem_36 : decode cX6_isMedalItem 36 = .ok (.aload_n 0, 1) := by decide +kernel
theorem dX6_isMedalItem_37 : decode cX6_isMedalItem 37 = .ok (.getfield 88, 3) := by decide +kernel
theorem dX6_isMedalItem_40 : decode cX6_isMedalItem 40 = .ok (.istore_n 2, 1) := by decide +kernel
theorem dX6_isMedalItem_41 : decode cX6_isMedalItem 41 = .ok (.aload_n 0, 1) := by decide +kernel
theorem dX6_isMedalItem_42 : decode cX6_isMedalItem 42 = .ok (.bipush 58, 2) := by decide +kernel
theorem dX6_isMedalItem_44 : decode cX6_isMedalItem 44 = .ok (.invokevirtual 98, 3) := by decide +kernel
theorem dX6_isMedalItem_47 : decode cX6_isMedalItem 47 = .ok (.ifCond .eq 20, 3) := by decide +kernel
theorem dX6_isMedalItem_50 : decode cX6_isMedalItem 50 = .ok (.aload_n 0, 1) := by decide +kernel
theorem dX6_isMedalItem_51 : decode cX6_isMedalItem 51 = .ok (.iconst 0, 1) := by decide +kernel
theorem dX6_isMedalItem_52 : decode cX6_isMedalItem 52 = .ok (.aload_n 0, 1) := by decide +kernel
theorem dX6_isMedalItem_53 : decode cX6_isMedalItem 53 = .ok (.getfield 29, 3) := by decide +kernel
theorem dX6_isMedalItem_56 : decode cX6_isMedalItem 56 = .ok (.bipush 19, 2) := by decide +kernel
theorem dX6_isMedalItem_58 : decode cX6_isMedalItem 58 = .ok (.iaload, 1) := by decide +kernel
theorem dX6_isMedalItem_59 : decode cX6_isMedalItem 59 = .ok (.iconst 1, 1) := by decide +kernel
theorem dX6_isMedalItem_60 : decode cX6_isMedalItem 60 = .ok (.isub, 1) := by decide +kernel
theorem dX6_isMedalItem_61 : decode cX6_isMedalItem 61 = .ok (.invokevirtual 91, 3) := by decide +kernel
theorem dX6_isMedalItem_64 : decode cX6_isMedalItem 64 = .ok (.ifCond .ne 5, 3) := by decide +kernel
theorem dX6_isMedalItem_67 : decode cX6_isMedalItem 67 = .ok (.iconst 0, 1) := by decide +kernel
theorem dX6_isMedalItem_68 : decode cX6_isMedalItem 68 = .ok (.ireturn, 1) := by decide +kernel
theorem dX6_isMedalItem_69 : decode cX6_isMedalItem 69 = .ok (.aload_n 0, 1) := by decide +kernel
theorem dX6_isMedalItem_70 : decode cX6_isMedalItem 70 = .ok (.getfield 29, 3) := by decide +kernel
theorem dX6_isMedalItem_73 : decode cX6_isMedalItem 73 = .ok (.iload_n 1, 1) := by decide +kernel
theorem dX6_isMedalItem_74 : decode cX6_isMedalItem 74 = .ok (.iload_n 2, 1) := by decide +kernel
theorem dX6_isMedalItem_75 : decode cX6_isMedalItem 75 = .ok (.aload_n 0, 1) := by decide +kernel
theorem dX6_isMedalItem_76 : decode cX6_isMedalItem 76 = .ok (.getfield 88, 3) := by decide +kernel
theorem dX6_isMedalItem_79 : decode cX6_isMedalItem 79 = .ok (.invokestatic 50, 3) := by decide +kernel
theorem dX6_isMedalItem_82 : decode cX6_isMedalItem 82 = .ok (.istore_n 3, 1) := by decide +kernel
theorem dX6_isMedalItem_83 : decode cX6_isMedalItem 83 = .ok (.aload_n 0, 1) := by decide +kernel
theorem dX6_isMedalItem_84 : decode cX6_isMedalItem 84 = .ok (.bipush 64, 2) := by decide +kernel
theorem dX6_isMedalItem_86 : decode cX6_isMedalItem 86 = .ok (.invokevirtual 98, 3) := by decide +kernel
theorem dX6_isMedalItem_89 : decode cX6_isMedalItem 89 = .ok (.ifCond .eq 35, 3) := by decide +kernel
theorem dX6_isMedalItem_92 : decode cX6_isMedalItem 92 = .ok (.aload_n 0, 1) := by decide +kernel
theorem dX6_isMedalItem_93 : decode cX6_isMedalItem 93 = .ok (.iconst 0, 1) := by decide +kernel
theorem dX6_isMedalItem_94 : decode cX6_isMedalItem 94 = .ok (.aload_n 0, 1) := by decide +kernel
theorem dX6_isMedalItem_95 : decode cX6_isMedalItem 95 = .ok (.getfield 29, 3) := by decide +kernel
theorem dX6_isMedalItem_98 : decode cX6_isMedalItem 98 = .ok (.bipush 19, 2) := by decide +kernel
theorem dX6_isMedalItem_100 : decode cX6_isMedalItem 100 = .ok (.iaload, 1) := by decide +kernel
theorem dX6_isMedalItem_101 : decode cX6_isMedalItem 101 = .ok (.iconst 1, 1) := by decide +kernel
theorem dX6_isMedalItem_102 : decode cX6_isMedalItem 102 = .ok (.isub, 1) := by decide +kernel
theorem dX6_isMedalItem_103 : decode cX6_isMedalItem 103 = .ok (.invokevirtual 91, 3) := by decide +kernel
theorem dX6_isMedalItem_106 : decode cX6_isMedalItem 106 = .ok (.ifCond .ne 5, 3) := by decide +kernel
theorem dX6_isMedalItem_109 : decode cX6_isMedalItem 109 = .ok (.iconst 0, 1) := by decide +kernel
theorem dX6_isMedalItem_110 : decode cX6_isMedalItem 110 = .ok (.ireturn, 1) := by decide +kernel
theorem dX6_isMedalItem_111 : decode cX6_isMedalItem 111 = .ok (.aload_n 0, 1) := by decide +kernel
theorem dX6_isMedalItem_112 : decode cX6_isMedalItem 112 = .ok (.getfield 29, 3) := by decide +kernel
theorem dX6_isMedalItem_115 : decode cX6_isMedalItem 115 = .ok (.bipush 13, 2) := by decide +kernel
theorem dX6_isMedalItem_117 : decode cX6_isMedalItem 117 = .ok (.iload_n 3, 1) := by decide +kernel
theorem dX6_isMedalItem_118 : decode cX6_isMedalItem 118 = .ok (.iadd, 1) := by decide +kernel
theorem dX6_isMedalItem_119 : decode cX6_isMedalItem 119 = .ok (.aload_n 0, 1) := by decide +kernel
theorem dX6_isMedalItem_120 : decode cX6_isMedalItem 120 = .ok (.getfield 88, 3) := by decide +kernel
theorem dX6_isMedalItem_123 : decode cX6_isMedalItem 123 = .ok (.iastore, 1) := by decide +kernel
theorem dX6_isMedalItem_124 : decode cX6_isMedalItem 124 = .ok (.iconst 1, 1) := by decide +kernel
theorem dX6_isMedalItem_125 : decode cX6_isMedalItem 125 = .ok (.ireturn, 1) := by decide +kernel
set_option maxRecDepth 20000 in
theorem ggX6_isState_X6_isManItem : GoodIn wsX6_isState wsX6_isManItem := goodIn_r _ [6, 1, 7, 8, 9, 10, 5, 11, 12, 13, 14, 15, 16, 17, 18, 19, 20, 21, 22, 23, 24, 25, 26, 27, 28, 29, 30, 31, 32, 43, 44, 45, 46, 47, 48, 49, 50, 51, 52, 53, 54, 55, 56, 57] (by decide +kernel) (by decide +kernel)
set_option maxRecDepth 20000 in
theorem gX6_isState_X6_isManItem : GoodIn wsX6_isState (wsV RX6 104 RX6 yX6_isManItem wsX6_isManItem) := goodIn_app (goodIn_of _ (by decide +kernel)) ggX6_isState_X6_isManItem
set_option maxRecDepth 20000 in
theorem ggX6_isState_X6_isSign : GoodIn wsX6_isState wsX6_isSign := goodIn_r _ [32, 12, 19, 20, 21, 5, 22, 13, 14, 43, 44, 45, 46, 47, 48, 49, 50, 51, 52, 53, 54, 55, 56, 57] (by decide +kernel) (by decide +kernel)
set_option maxRecDepth 20000 in
theorem gX6_isState_X6_isSign : GoodIn wsX6_isState (wsV RX6 98 RX6 yX6_isSign wsX6_isSign) := goodIn_app (goodIn_of _ (by decide +kernel)) ggX6_isState_X6_isSign
set_option maxRecDepth 20000 in
theorem ggX6_isState_X6_isMedalItem : GoodIn wsX6_isState wsX6_isMedalItem := goodIn_r _ [36, 12, 7, 1, 19, 20, 21, 5, 22, 13, 14, 37, 38, 39, 8, 9, 10, 11, 15, 16, 17, 18, 23, 24, 25, 29, 30, 31, 32, 40, 41, 42, 43, 44, 45, 46, 47, 48, 49, 50, 51, 52, 53, 54, 55, 56, 57] (by decide +kernel) (by decide +kernel)
set_option maxRecDepth 20000 in
theorem gX6_isState_X6_isMedalItem : GoodIn wsX6_isState (wsV RX6 108 RX6 yX6_isMedalItem wsX6_isMedalItem) := goodIn_app (goodIn_of _ (by decide +kernel)) ggX6_isState_X6_isMedalItem
set_option maxRecDepth 20000 in
theorem ggX6_isState_X6_peek : GoodIn wsX6_isState wsX6_peek := goodIn_r _ [22, 12, 13, 14, 43, 44, 45, 46, 47, 48, 49, 50, 51, 52, 53, 54, 55, 56, 57] (by decide +kernel) (by decide +kernel)
set_option maxRecDepth 20000 in
theorem gX6_isState_X6_peek : GoodIn wsX6_isState (wsV RX6 84 RX6 yX6_peek wsX6_peek) := goodIn_app (goodIn_of _ (by decide +kernel)) ggX6_isState_X6_peek
theorem dX6_isState_0 : decode cX6_isState 0 = .ok (.iconst 1, 1) := by decide +kernel
theorem dX6_isState_1 : decode cX6_isState 1 = .ok (.istore_n 1, 1) := by decide +kernel
theorem dX6_isState_2 : decode cX6_isState 2 = .ok (.iload_n 1, 1) := by decide +kernel
theorem dX6_isState_3 : decode cX6_isState 3 = .ok (.ifCond .eq 41, 3) := by decide +kernel
theorem dX6_isState_6 : decode cX6_isState 6 = .ok (.aload_n 0, 1) := by decide +kernel
theorem dX6_isState_7 : decode cX6_isState 7 = .ok (.invokevirtual 104, 3) := by decide +kernel
theorem dX6_isState_10 : decode cX6_isState 10 = .ok (.ifCond .ne 5, 3) := by decide +kernel
theorem dX6_isState_13 : decode cX6_isState 13 = .ok (.iconst 0, 1) := by decide +kernel
theorem dX6_isState_14 : decode cX6_isState 14 = .ok (.ireturn, 1) := by decide +kernel
theorem dX6_isState_15 : decode cX6_isState 15 = .ok (.aload_n 0, 1) := by decide +kernel
theorem dX6_isState_16 : decode cX6_isState 16 = .ok (.getfield 29, 3) := by decide +kernel
theorem dX6_isState_19 : decode cX6_isState 19 = .ok (.bipush 19, 2) := by decide +kernel
theorem dX6_isState_21 : decode cX6_isState 21 = .ok (.iaload, 1) := by decide +kernel
theorem dX6_isState_22 : decode cX6_isState 22 = .ok (.iconst 5, 1) := by decide +kernel
theorem dX6_isState_23 : decode cX6_isState 23 = .ok (.if_icmp .ge 16, 3) := by decide +kernel
theorem dX6_isState_26 : decode cX6_isState 26 = .ok (.aload_n 0, 1) := by decide +kernel
theorem dX6_isState_27 : decode cX6_isState 27 = .ok (.bipush 44, 2) := by decide +kernel
theorem dX6_isState_29 : decode cX6_isState 29 = .ok (.invokevirtual 98, 3) := by decide +kernel
theorem dX6_isState_32 : decode cX6_isState 32 = .ok (.ifCond .eq 7, 3) := by decide +kernel
theorem dX6_isState_35 : decode cX6_isState 35 = .ok (.iconst 1, 1) := by decide +kernel
theorem dX6_isState_36 : decode cX6_isState 36 = .ok (.goto 4, 3) := by decide +kernel
theorem dX6_isState_39 : decode cX6_isState 39 = .ok (.iconst 0, 1) := by decide +kernel
theorem dX6_isState_40 : decode cX6_isState 40 = .ok (.istore_n 1, 1) := by decide +kernel
theorem dX6_isState_41 : decode cX6_isState 41 = .ok (.goto (-39), 3) := by decide +kernel
theorem dX6_isState_44 : decode cX6_isState 44 = .ok (.aload_n 0, 1) := by decide +kernel
theorem dX6_isState_45 : decode cX6_isState 45 = .ok (.bipush 59, 2) := by decide +kernel
theorem dX6_isState_47 : decode cX6_isState 47 = .ok (.invokevirtual 98, 3) := by decide +kernel
theorem dX6_isState_50 : decode cX6_isState 50 = .ok (.istore_n 1, 1) := by decide +kernel
theorem dX6_isState_51 : decode cX6_isState 51 = .ok (.iload_n 1, 1) := by decide +kernel
theorem dX6_isState_52 : decode cX6_isState 52 = .ok (.ifCond .eq 42, 3) := by decide +kernel
theorem dX6_isState_55 : decode cX6_isState 55 = .ok (.aload_n 0, 1) := by decide +kernel
theorem dX6_isState_56 : decode cX6_isState 56 = .ok (.invokevirtual 108, 3) := by decide +kernel
theorem dX6_isState_59 : decode cX6_isState 59 = .ok (.ifCond .ne 5, 3) := by decide +kernel
theorem dX6_isState_62 : decode cX6_isState 62 = .ok (.iconst 0, 1) := by decide +kernel
theorem dX6_isState_63 : decode cX6_isState 63 = .ok (.ireturn, 1) := by decide +kernel
theorem dX6_isState_64 : decode cX6_isState 64 = .ok (.aload_n 0, 1) := by decide +kernel
theorem dX6_isState_65 : decode cX6_isState 65 = .ok (.getfield 29, 3) := by decide +kernel
theorem dX6_isState_68 : decode cX6_isState 68 = .ok (.bipush 25, 2) := by decide +kernel
theorem dX6_isState_70 : decode cX6_isState 70 = .ok (.iaload, 1) := by decide +kernel
theorem dX6_isState_71 : decode cX6_isState 71 = .ok (.bipush 6, 2) := by decide +kernel
theorem dX6_isState_73 : decode cX6_isState 73 = .ok (.if_icmp .ge 16, 3) := by decide +kernel
theorem dX6_isState_76 : decode cX6_isState 76 = .ok (.aload_n 0, 1) := by decide +kernel
theorem dX6_isState_77 : decode cX6_isState 77 = .ok (.bipush 44, 2) := by decide +kernel
theorem dX6_isState_79 : decode cX6_isState 79 = .ok (.invokevirtual 98, 3) := by decide +kernel
theorem dX6_isState_82 : decode cX6_isState 82 = .ok (.ifCond .eq 7, 3) := by decide +kernel
theorem dX6_isState_85 : decode cX6_isState 85 = .ok (.iconst 1, 1) := by decide +kernel
theorem dX6_isState_86 : decode cX6_isState 86 = .ok (.goto 4, 3) := by decide +kernel
theorem dX6_isState_89 : decode cX6_isState 89 = .ok (.iconst 0, 1) := by decide +kernel
theorem dX6_isState_90 : decode cX6_isState 90 = .ok (.istore_n 1, 1) := by decide +kernel
theorem dX6_isState_91 : decode cX6_isState 91 = .ok (.goto (-40), 3) := by decide +kernel
theorem dX6_isState_94 : decode cX6_isState 94 = .ok (.aload_n 0, 1) := by decide +kernel
theorem dX6_isState_95 : decode cX6_isState 95 = .ok (.invokevirtual 84, 3) := by decide +kernel
theorem dX6_isState_98 : decode cX6_isState 98 = .ok (.ifCond .ne 7, 3) := by decide +kernel
theorem dX6_isState_101 : decode cX6_isState 101 = .ok (.iconst 1, 1) := by decide +kernel
theorem dX6_isState_102 : decode cX6_isState 102 = .ok (.goto 4, 3) := by decide +kernel
theorem dX6_isState_105 : decode cX6_isState 105 = .ok (.iconst 0, 1) := by decide +kernel
theorem dX6_isState_106 : decode cX6_isState 106 = .ok (.ireturn, 1) := by decide +kernel
set_option maxRecDepth 20000 in
theorem ggX6_state_X6_isState : GoodIn wsX6_state wsX6_isState := goodIn_r _ [9, 1, 10, 11, 12, 8, 13, 14, 15, 16, 17, 18, 3, 4, 19, 20, 21, 22, 23, 24, 25, 26, 27, 28, 29, 30, 31, 32, 33, 34, 35, 36, 37, 38, 39, 40, 41, 42, 43, 44, 45, 46, 47, 51, 52, 53, 54, 55, 56, 57, 58, 59, 60, 61, 62, 63, 64, 65] (by decide +kernel) (by decide +kernel)
set_option maxRecDepth 20000 in
theorem gX6_state_X6_isState : GoodIn wsX6_state (wsV RX6 111 RX6 yX6_isState wsX6_isState) := goodIn_app (goodIn_of _ (by decide +kernel)) ggX6_state_X6_isState
set_option maxRecDepth 20000 in
theorem ggX6_state_X6_bring : GoodIn wsX6_state wsX6_bring := goodIn_r _ [50] (by decide +kernel) (by decide +kernel)
set_option maxRecDepth 20000 in
theorem gX6_state_X6_bring : GoodIn wsX6_state (va_wsS RX6 114 yX6_bring wsX6_bring) := goodIn_app (goodIn_of _ (by decide +kernel)) ggX6_state_X6_bring
theorem dX6_state_0 : decode cX6_state 0 = .ok (.iconst 0, 1) := by decide +kernel
theorem dX6_state_1 : decode cX6_state 1 = .ok (.istore_n 1, 1) := by decide +kernel
theorem dX6_state_2 : decode cX6_state 2 = .ok (.iload_n 1, 1) := by decide +kernel
theorem dX6_state_3 : decode cX6_state 3 = .ok (.sipush 191, 3) := by decide +kernel
theorem dX6_state_6 : decode cX6_state 6 = .ok (.if_icmp .ge 16, 3) := by decide +kernel
theorem dX6_state_9 : decode cX6_state 9 = .ok (.aload_n 0, 1) := by decide +kernel
theorem dX6_state_10 : decode cX6_state 10 = .ok (.getfield 29, 3) := by decide +kernel
theorem dX6_state_13 : decode cX6_state 13 = .ok (.iload_n 1, 1) := by decide +kernel
theorem dX6_state_14 : decode cX6_state 14 = .ok (.iconst 0, 1) := by decide +kernel
theorem dX6_state_15 : decode cX6_state 15 = .ok (.iastore, 1) := by decide +kernel
theorem dX6_state_16 : decode cX6_state 16 = .ok (.iinc 1 1, 3) := by decide +kernel
theorem dX6_state_19 : decode cX6_state 19 = .ok (.goto (-17), 3) := by decide +kernel
theorem dX6_state_22 : decode cX6_state 22 = .ok (.aload_n 0, 1) := by decide +kernel
theorem dX6_state_23 : decode cX6_state 23 = .ok (.getfield 29, 3) := by decide +kernel
theorem dX6_state_26 : decode cX6_state 26 = .ok (.iconst 1, 1) := by decide +kernel
theorem dX6_state_27 : decode cX6_state 27 = .ok (.aload_n 0, 1) := by decide +kernel
theorem dX6_state_28 : decode cX6_state 28 = .ok (.getfield 23, 3) := by decide +kernel
theorem dX6_state_31 : decode cX6_state 31 = .ok (.iconst 1, 1) := by decide +kernel
theorem dX6_state_32 : decode cX6_state 32 = .ok (.iaload, 1) := by decide +kernel
theorem dX6_state_33 : decode cX6_state 33 = .ok (.iastore, 1) := by decide +kernel
theorem dX6_state_34 : decode cX6_state 34 = .ok (.aload_n 0, 1) := by decide +kernel
theorem dX6_state_35 : decode cX6_state 35 = .ok (.iconst 0, 1) := by decide +kernel
theorem dX6_state_36 : decode cX6_state 36 = .ok (.putfield 81, 3) := by decide +kernel
theorem dX6_state_39 : decode cX6_state 39 = .ok (.aload_n 0, 1) := by decide +kernel
theorem dX6_state_40 : decode cX6_state 40 = .ok (.invokevirtual 111, 3) := by decide +kernel
theorem dX6_state_43 : decode cX6_state 43 = .ok (.istore_n 1, 1) := by decide +kernel
theorem dX6_state_44 : decode cX6_state 44 = .ok (.aload_n 0, 1) := by decide +kernel
theorem dX6_state_45 : decode cX6_state 45 = .ok (.iconst 0, 1) := by decide +kernel
theorem dX6_state_46 : decode cX6_state 46 = .ok (.putfield 77, 3) := by decide +kernel
theorem dX6_state_49 : decode cX6_state 49 = .ok (.iload_n 1, 1) := by decide +kernel
theorem dX6_state_50 : decode cX6_state 50 = .ok (.ifCond .ne 11, 3) := by decide +kernel
theorem dX6_state_53 : decode cX6_state 53 = .ok (.bipush (-20), 2) := by decide +kernel
theorem dX6_state_55 : decode cX6_state 55 = .ok (.aload_n 0, 1) := by decide +kernel
theorem dX6_state_56 : decode cX6_state 56 = .ok (.getfield 81, 3) := by decide +kernel
theorem dX6_state_59 : decode cX6_state 59 = .ok (.isub, 1) := by decide +kernel
theorem dX6_state_60 : decode cX6_state 60 = .ok (.ireturn, 1) := by decide +kernel
theorem dX6_state_61 : decode cX6_state 61 = .ok (.aload_n 0, 1) := by decide +kernel
theorem dX6_state_62 : decode cX6_state 62 = .ok (.getfield 29, 3) := by decide +kernel
theorem dX6_state_65 : decode cX6_state 65 = .ok (.iconst 0, 1) := by decide +kernel
theorem dX6_state_66 : decode cX6_state 66 = .ok (.aload_n 0, 1) := by decide +kernel
theorem dX6_state_67 : decode cX6_state 67 = .ok (.getfield 23, 3) := by decide +kernel
theorem dX6_state_70 : decode cX6_state 70 = .ok (.iconst 0, 1) := by decide +kernel
theorem dX6_state_71 : decode cX6_state 71 = .ok (.sipush 191, 3) := by decide +kernel
theorem dX6_state_74 : decode cX6_state 74 = .ok (.invokestatic 114, 3) := by decide +kernel
theorem dX6_state_77 : decode cX6_state 77 = .ok (.aload_n 0, 1) := by decide +kernel
theorem dX6_state_78 : decode cX6_state 78 = .ok (.getfield 23, 3) := by decide +kernel
theorem dX6_state_81 : decode cX6_state 81 = .ok (.bipush 19, 2) := by decide +kernel
theorem dX6_state_83 : decode cX6_state 83 = .ok (.iaload, 1) := by decide +kernel
theorem dX6_state_84 : decode cX6_state 84 = .ok (.ireturn, 1) := by decide +kernel
set_option maxRecDepth 20000 in
theorem ggX6_hang_X6_isMedal : GoodIn wsX6_hang wsX6_isMedal := goodIn_r _ [6, 1, 7, 8, 5, 9, 21, 22, 23, 24, 25, 26, 27, 28, 29, 30, 31, 32, 33, 34, 35] (by decide +kernel) (by decide +kernel)
set_option maxRecDepth 20000 in
theorem gX6_hang_X6_isMedal : GoodIn wsX6_hang (wsV RX6 74 RX6 yX6_isMedal wsX6_isMedal) := goodIn_app (goodIn_of _ (by decide +kernel)) ggX6_hang_X6_isMedal
set_option maxRecDepth 20000 in
theorem ggX6_hang_X6_isMan : GoodIn wsX6_hang wsX6_isMan := goodIn_r _ [13, 1, 7, 8, 5, 9, 21, 22, 23, 24, 25, 26, 27, 28, 29, 30, 31, 32, 33, 34, 35] (by decide +kernel) (by decide +kernel)
set_option maxRecDepth 20000 in
theorem gX6_hang_X6_isMan : GoodIn wsX6_hang (wsV RX6 46 RX6 yX6_isMan wsX6_isMan) := goodIn_app (goodIn_of _ (by decide +kernel)) ggX6_hang_X6_isMan
set_option maxRecDepth 20000 in
theorem ggX6_hang_X6_note : GoodIn wsX6_hang wsX6_note := goodIn_r _ [17, 1, 18, 19, 5, 20, 21, 22, 23, 24, 25, 26, 27, 28, 29, 30, 31, 32, 33, 34, 35] (by decide +kernel) (by decide +kernel)
set_option maxRecDepth 20000 in
theorem gX6_hang_X6_note : GoodIn wsX6_hang (wsV RX6 128 RX6 yX6_note wsX6_note) := goodIn_app (goodIn_of _ (by decide +kernel)) ggX6_hang_X6_note
theorem dX6_hang_0 : decode cX6_hang 0 = .ok (.aload_n 0, 1) := by decide +kernel
theorem dX6_hang_1 : decode cX6_hang 1 = .ok (.iload_n 1, 1) := by decide +kernel
theorem dX6_hang_2 : decode cX6_hang 2 = .ok (.invokevirtual 74, 3) := by decide +kernel
theorem dX6_hang_5 : decode cX6_hang 5 = .ok (.ifCond .eq 17, 3) := by decide +kernel
theorem dX6_hang_8 : decode cX6_hang 8 = .ok (.iload_n 2, 1) := by decide +kernel
theorem dX6_hang_9 : decode cX6_hang 9 = .ok (.bipush (-4), 2) := by decide +kernel
theorem dX6_hang_11 : decode cX6_hang 11 = .ok (.if_icmp .eq 13, 3) := by decide +kernel
theorem dX6_hang_14 : decode cX6_hang 14 = .ok (.aload_n 0, 1) := by decide +kernel
theorem dX6_hang_15 : decode cX6_hang 15 = .ok (.iload_n 2, 1) := by decide +kernel
theorem dX6_hang_16 : decode cX6_hang 16 = .ok (.invokevirtual 46, 3) := by decide +kernel
theorem dX6_hang_19 : decode cX6_hang 19 = .ok (.ifCond .ne 5, 3) := by decide +kernel
theorem dX6_hang_22 : decode cX6_hang 22 = .ok (.iconst (-1), 1) := by decide +kernel
theorem dX6_hang_23 : decode cX6_hang 23 = .ok (.ireturn, 1) := by decide +kernel
theorem dX6_hang_24 : decode cX6_hang 24 = .ok (.aload_n 0, 1) := by decide +kernel
theorem dX6_hang_25 : decode cX6_hang 25 = .ok (.getfield 23, 3) := by decide +kernel
theorem dX6_hang_28 : decode cX6_hang 28 = .ok (.bipush 13, 2) := by decide +kernel
theorem dX6_hang_30 : decode cX6_hang 30 = .ok (.iload_n 1, 1) := by decide +kernel
theorem dX6_hang_31 : decode cX6_hang 31 = .ok (.iadd, 1) := by decide +kernel
theorem dX6_hang_32 : decode cX6_hang 32 = .ok (.iaload, 1) := by decide +kernel
theorem dX6_hang_33 : decode cX6_hang 33 = .ok (.istore_n 3, 1) := by decide +kernel
theorem dX6_hang_34 : decode cX6_hang 34 = .ok (.iload_n 3, 1) := by decide +kernel
theorem dX6_hang_35 : decode cX6_hang 35 = .ok (.iload_n 2, 1) := by decide +kernel
theorem dX6_hang_36 : decode cX6_hang 36 = .ok (.if_icmp .ne 6, 3) := by decide +kernel
theorem dX6_hang_39 : decode cX6_hang 39 = .ok (.bipush (-2), 2) := by decide +kernel
theorem dX6_hang_41 : decode cX6_hang 41 = .ok (.ireturn, 1) := by decide +kernel
theorem dX6_hang_42 : decode cX6_hang 42 = .ok (.aload_n 0, 1) := by decide +kernel
theorem dX6_hang_43 : decode cX6_hang 43 = .ok (.invokevirtual 128, 3) := by decide +kernel
theorem dX6_hang_46 : decode cX6_hang 46 = .ok (.aload_n 0, 1) := by decide +kernel
theorem dX6_hang_47 : decode cX6_hang 47 = .ok (.getfield 23, 3) := by decide +kernel
theorem dX6_hang_50 : decode cX6_hang 50 = .ok (.bipush 13, 2) := by decide +kernel
theorem dX6_hang_52 : decode cX6_hang 52 = .ok (.iload_n 1, 1) := by decide +kernel
theorem dX6_hang_53 : decode cX6_hang 53 = .ok (.iadd, 1) := by decide +kernel
theorem dX6_hang_54 : decode cX6_hang 54 = .ok (.iload_n 2, 1) := by decide +kernel
theorem dX6_hang_55 : decode cX6_hang 55 = .ok (.iastore, 1) := by decide +kernel
theorem dX6_hang_56 : decode cX6_hang 56 = .ok (.iload_n 3, 1) := by decide +kernel
theorem dX6_hang_57 : decode cX6_hang 57 = .ok (.ireturn, 1) := by decide +kernel
set_option maxRecDepth 20000 in
theorem ggX6_polish_X6_isMedal : GoodIn wsX6_polish wsX6_isMedal := goodIn_r _ [6, 1, 7, 8, 5, 9, 17, 18, 19, 20, 21, 22, 23, 24, 25, 26, 27, 28, 29, 30, 31] (by decide +kernel) (by decide +kernel)
set_option maxRecDepth 20000 in
theorem gX6_polish_X6_isMedal : GoodIn wsX6_polish (wsV RX6 74 RX6 yX6_isMedal wsX6_isMedal) := goodIn_app (goodIn_of _ (by decide +kernel)) ggX6_polish_X6_isMedal
set_option maxRecDepth 20000 in
theorem ggX6_polish_X6_in : GoodIn wsX6_polish wsX6_in := goodIn_r _ [9] (by decide +kernel) (by decide +kernel)
set_option maxRecDepth 20000 in
theorem gX6_polish_X6_in : GoodIn wsX6_polish (va_wsS RX6 38 yX6_in wsX6_in) := goodIn_app (goodIn_of _ (by decide +kernel)) ggX6_polish_X6_in
set_option maxRecDepth 20000 in
theorem ggX6_polish_X6_note : GoodIn wsX6_polish wsX6_note := goodIn_r _ [13, 1, 14, 15, 5, 16, 17, 18, 19, 20, 21, 22, 23, 24, 25, 26, 27, 28, 29, 30, 31] (by decide +kernel) (by decide +kernel)
set_option maxRecDepth 20000 in
theorem gX6_polish_X6_note : GoodIn wsX6_polish (wsV RX6 128 RX6 yX6_note wsX6_note) := goodIn_app (goodIn_of _ (by decide +kernel)) ggX6_polish_X6_note
theorem dX6_polish_0 : decode cX6_polish 0 = .ok (.aload_n 0, 1) := by decide +kernel
theorem dX6_polish_1 : decode cX6_polish 1 = .ok (.iload_n 1, 1) := by decide +kernel
theorem dX6_polish_2 : decode cX6_polish 2 = .ok (.invokevirtual 74, 3) := by decide +kernel
theorem dX6_polish_5 : decode cX6_polish 5 = .ok (.ifCond .eq 13, 3) := by decide +kernel
theorem dX6_polish_8 : decode cX6_polish 8 = .ok (.iload_n 2, 1) := by decide +kernel
theorem dX6_polish_9 : decode cX6_polish 9 = .ok (.iconst 1, 1) := by decide +kernel
theorem dX6_polish_10 : decode cX6_polish 10 = .ok (.bipush 20, 2) := by decide +kernel
theorem dX6_polish_12 : decode cX6_polish 12 = .ok (.invokestatic 38, 3) := by decide +kernel
theorem dX6_polish_15 : decode cX6_polish 15 = .ok (.ifCond .ne 5, 3) := by decide +kernel
theorem dX6_polish_18 : decode cX6_polish 18 = .ok (.iconst (-1), 1) := by decide +kernel
theorem dX6_polish_19 : decode cX6_polish 19 = .ok (.ireturn, 1) := by decide +kernel
theorem dX6_polish_20 : decode cX6_polish 20 = .ok (.aload_n 0, 1) := by decide +kernel
theorem dX6_polish_21 : decode cX6_polish 21 = .ok (.getfield 23, 3) := by decide +kernel
theorem dX6_polish_24 : decode cX6_polish 24 = .ok (.bipush 7, 2) := by decide +kernel
theorem dX6_polish_26 : decode cX6_polish 26 = .ok (.iload_n 1, 1) := by decide +kernel
theorem dX6_polish_27 : decode cX6_polish 27 = .ok (.iadd, 1) := by decide +kernel
theorem dX6_polish_28 : decode cX6_polish 28 = .ok (.iaload, 1) := by decide +kernel
theorem dX6_polish_29 : decode cX6_polish 29 = .ok (.bipush 20, 2) := by decide +kernel
theorem dX6_polish_31 : decode cX6_polish 31 = .ok (.if_icmp .ne 6, 3) := by decide +kernel
theorem dX6_polish_34 : decode cX6_polish 34 = .ok (.bipush (-2), 2) := by decide +kernel
theorem dX6_polish_36 : decode cX6_polish 36 = .ok (.ireturn, 1) := by decide +kernel
theorem dX6_polish_37 : decode cX6_polish 37 = .ok (.aload_n 0, 1) := by decide +kernel
theorem dX6_polish_38 : decode cX6_polish 38 = .ok (.invokevirtual 128, 3) := by decide +kernel
theorem dX6_polish_41 : decode cX6_polish 41 = .ok (.aload_n 0, 1) := by decide +kernel
theorem dX6_polish_42 : decode cX6_polish 42 = .ok (.getfield 23, 3) := by decide +kernel
theorem dX6_polish_45 : decode cX6_polish 45 = .ok (.bipush 7, 2) := by decide +kernel
theorem dX6_polish_47 : decode cX6_polish 47 = .ok (.iload_n 1, 1) := by decide +kernel
theorem dX6_polish_48 : decode cX6_polish 48 = .ok (.iadd, 1) := by decide +kernel
theorem dX6_polish_49 : decode cX6_polish 49 = .ok (.aload_n 0, 1) := by decide +kernel
theorem dX6_polish_50 : decode cX6_polish 50 = .ok (.getfield 23, 3) := by decide +kernel
theorem dX6_polish_53 : decode cX6_polish 53 = .ok (.bipush 7, 2) := by decide +kernel
theorem dX6_polish_55 : decode cX6_polish 55 = .ok (.iload_n 1, 1) := by decide +kernel
theorem dX6_polish_56 : decode cX6_polish 56 = .ok (.iadd, 1) := by decide +kernel
theorem dX6_polish_57 : decode cX6_polish 57 = .ok (.iaload, 1) := by decide +kernel
theorem dX6_polish_58 : decode cX6_polish 58 = .ok (.iload_n 2, 1) := by decide +kernel
theorem dX6_polish_59 : decode cX6_polish 59 = .ok (.iadd, 1) := by decide +kernel
theorem dX6_polish_60 : decode cX6_polish 60 = .ok (.bipush 20, 2) := by decide +kernel
theorem dX6_polish_62 : decode cX6_polish 62 = .ok (.if_icmp .le 8, 3) := by decide +kernel
theorem dX6_polish_65 : decode cX6_polish 65 = .ok (.bipush 20, 2) := by decide +kernel
theorem dX6_polish_67 : decode cX6_polish 67 = .ok (.goto 14, 3) := by decide +kernel
theorem dX6_polish_70 : decode cX6_polish 70 = .ok (.aload_n 0, 1) := by decide +kernel
theorem dX6_polish_71 : decode cX6_polish 71 = .ok (.getfield 23, 3) := by decide +kernel
theorem dX6_polish_74 : decode cX6_polish 74 = .ok (.bipush 7, 2) := by decide +kernel
theorem dX6_polish_76 : decode cX6_polish 76 = .ok (.iload_n 1, 1) := by decide +kernel
theorem dX6_polish_77 : decode cX6_polish 77 = .ok (.iadd, 1) := by decide +kernel
theorem dX6_polish_78 : decode cX6_polish 78 = .ok (.iaload, 1) := by decide +kernel
theorem dX6_polish_79 : decode cX6_polish 79 = .ok (.iload_n 2, 1) := by decide +kernel
theorem dX6_polish_80 : decode cX6_polish 80 = .ok (.iadd, 1) := by decide +kernel
theorem dX6_polish_81 : decode cX6_polish 81 = .ok (.iastore, 1) := by decide +kernel
theorem dX6_polish_82 : decode cX6_polish 82 = .ok (.aload_n 0, 1) := by decide +kernel
theorem dX6_polish_83 : decode cX6_polish 83 = .ok (.getfield 23, 3) := by decide +kernel
theorem dX6_polish_86 : decode cX6_polish 86 = .ok (.bipush 7, 2) := by decide +kernel
theorem dX6_polish_88 : decode cX6_polish 88 = .ok (.iload_n 1, 1) := by decide +kernel
theorem dX6_polish_89 : decode cX6_polish 89 = .ok (.iadd, 1) := by decide +kernel
theorem dX6_polish_90 : decode cX6_polish 90 = .ok (.iaload, 1) := by decide +kernel
theorem dX6_polish_91 : decode cX6_polish 91 = .ok (.ireturn, 1) := by decide +kernel
set_option maxRecDepth 20000 in
theorem ggX6_undo_X6_bring : GoodIn wsX6_undo wsX6_bring := goodIn_r _ [5] (by decide +kernel) (by decide +kernel)
set_option maxRecDepth 20000 in
theorem gX6_undo_X6_bring : GoodIn wsX6_undo (va_wsS RX6 114 yX6_bring wsX6_bring) := goodIn_app (goodIn_of _ (by decide +kernel)) ggX6_undo_X6_bring
theorem dX6_undo_0 : decode cX6_undo 0 = .ok (.aload_n 0, 1) := by decide +kernel
theorem dX6_undo_1 : decode cX6_undo 1 = .ok (.getfield 23, 3) := by decide +kernel
theorem dX6_undo_4 : decode cX6_undo 4 = .ok (.bipush 38, 2) := by decide +kernel
theorem dX6_undo_6 : decode cX6_undo 6 = .ok (.iaload, 1) := by decide +kernel
theorem dX6_undo_7 : decode cX6_undo 7 = .ok (.ifCond .ne 6, 3) := by decide +kernel
theorem dX6_undo_10 : decode cX6_undo 10 = .ok (.bipush (-4), 2) := by decide +kernel
theorem dX6_undo_12 : decode cX6_undo 12 = .ok (.ireturn, 1) := by decide +kernel
theorem dX6_undo_13 : decode cX6_undo 13 = .ok (.aload_n 0, 1) := by decide +kernel
theorem dX6_undo_14 : decode cX6_undo 14 = .ok (.getfield 23, 3) := by decide +kernel
theorem dX6_undo_17 : decode cX6_undo 17 = .ok (.bipush 38, 2) := by decide +kernel
theorem dX6_undo_19 : decode cX6_undo 19 = .ok (.dup2, 1) := by decide +kernel
theorem dX6_undo_20 : decode cX6_undo 20 = .ok (.iaload, 1) := by decide +kernel
theorem dX6_undo_21 : decode cX6_undo 21 = .ok (.iconst 1, 1) := by decide +kernel
theorem dX6_undo_22 : decode cX6_undo 22 = .ok (.isub, 1) := by decide +kernel
theorem dX6_undo_23 : decode cX6_undo 23 = .ok (.iastore, 1) := by decide +kernel
theorem dX6_undo_24 : decode cX6_undo 24 = .ok (.aload_n 0, 1) := by decide +kernel
theorem dX6_undo_25 : decode cX6_undo 25 = .ok (.getfield 23, 3) := by decide +kernel
theorem dX6_undo_28 : decode cX6_undo 28 = .ok (.bipush 39, 2) := by decide +kernel
theorem dX6_undo_30 : decode cX6_undo 30 = .ok (.bipush 19, 2) := by decide +kernel
theorem dX6_undo_32 : decode cX6_undo 32 = .ok (.aload_n 0, 1) := by decide +kernel
theorem dX6_undo_33 : decode cX6_undo 33 = .ok (.getfield 23, 3) := by decide +kernel
theorem dX6_undo_36 : decode cX6_undo 36 = .ok (.bipush 38, 2) := by decide +kernel
theorem dX6_undo_38 : decode cX6_undo 38 = .ok (.iaload, 1) := by decide +kernel
theorem dX6_undo_39 : decode cX6_undo 39 = .ok (.imul, 1) := by decide +kernel
theorem dX6_undo_40 : decode cX6_undo 40 = .ok (.iadd, 1) := by decide +kernel
theorem dX6_undo_41 : decode cX6_undo 41 = .ok (.aload_n 0, 1) := by decide +kernel
theorem dX6_undo_42 : decode cX6_undo 42 = .ok (.getfield 23, 3) := by decide +kernel
theorem dX6_undo_45 : decode cX6_undo 45 = .ok (.iconst 0, 1) := by decide +kernel
theorem dX6_undo_46 : decode cX6_undo 46 = .ok (.bipush 19, 2) := by decide +kernel
theorem dX6_undo_48 : decode cX6_undo 48 = .ok (.invokestatic 114, 3) := by decide +kernel
theorem dX6_undo_51 : decode cX6_undo 51 = .ok (.aload_n 0, 1) := by decide +kernel
theorem dX6_undo_52 : decode cX6_undo 52 = .ok (.getfield 23, 3) := by decide +kernel
theorem dX6_undo_55 : decode cX6_undo 55 = .ok (.bipush 38, 2) := by decide +kernel
theorem dX6_undo_57 : decode cX6_undo 57 = .ok (.iaload, 1) := by decide +kernel
theorem dX6_undo_58 : decode cX6_undo 58 = .ok (.ireturn, 1) := by decide +kernel
theorem dX6_seed_0 : decode cX6_seed 0 = .ok (.iload_n 1, 1) := by decide +kernel
theorem dX6_seed_1 : decode cX6_seed 1 = .ok (.ifCond .ge 5, 3) := by decide +kernel
theorem dX6_seed_4 : decode cX6_seed 4 = .ok (.iconst (-1), 1) := by decide +kernel
theorem dX6_seed_5 : decode cX6_seed 5 = .ok (.ireturn, 1) := by decide +kernel
theorem dX6_seed_6 : decode cX6_seed 6 = .ok (.aload_n 0, 1) := by decide +kernel
theorem dX6_seed_7 : decode cX6_seed 7 = .ok (.getfield 23, 3) := by decide +kernel
theorem dX6_seed_10 : decode cX6_seed 10 = .ok (.iconst 1, 1) := by decide +kernel
theorem dX6_seed_11 : decode cX6_seed 11 = .ok (.iaload, 1) := by decide +kernel
theorem dX6_seed_12 : decode cX6_seed 12 = .ok (.istore_n 2, 1) := by decide +kernel
theorem dX6_seed_13 : decode cX6_seed 13 = .ok (.aload_n 0, 1) := by decide +kernel
theorem dX6_seed_14 : decode cX6_seed 14 = .ok (.getfield 23, 3) := by decide +kernel
theorem dX6_seed_17 : decode cX6_seed 17 = .ok (.iconst 1, 1) := by decide +kernel
theorem dX6_seed_18 : decode cX6_seed 18 = .ok (.iload_n 1, 1) := by decide +kernel
theorem dX6_seed_19 : decode cX6_seed 19 = .ok (.iastore, 1) := by decide +kernel
theorem dX6_seed_20 : decode cX6_seed 20 = .ok (.iload_n 2, 1) := by decide +kernel
theorem dX6_seed_21 : decode cX6_seed 21 = .ok (.ireturn, 1) := by decide +kernel
set_option maxRecDepth 20000 in
theorem ggX6_then_X6_in : GoodIn wsX6_then wsX6_in := goodIn_r _ [5] (by decide +kernel) (by decide +kernel)
set_option maxRecDepth 20000 in
theorem gX6_then_X6_in : GoodIn wsX6_then (va_wsS RX6 38 yX6_in wsX6_in) := goodIn_app (goodIn_of _ (by decide +kernel)) ggX6_then_X6_in
set_option maxRecDepth 20000 in
theorem ggX6_then_X6_begin : GoodIn wsX6_then wsX6_begin := goodIn_r _ [9, 10, 1, 11, 12, 4, 13, 39, 40, 41, 42, 43, 44, 45, 46, 47, 48, 49, 50, 51, 52, 53] (by decide +kernel) (by decide +kernel)
set_option maxRecDepth 20000 in
theorem gX6_then_X6_begin : GoodIn wsX6_then (wsV RX6 142 RX6 yX6_begin wsX6_begin) := goodIn_app (goodIn_of _ (by decide +kernel)) ggX6_then_X6_begin
set_option maxRecDepth 20000 in
theorem ggX6_then_X6_goOn : GoodIn wsX6_then wsX6_goOn := goodIn_r _ [17, 1, 18, 19, 4, 20, 21, 22, 23, 24, 25, 26, 27, 28, 29, 30, 31, 32, 33, 34, 35, 36, 37, 38, 39, 40, 41, 42, 43, 44, 45, 46, 47, 48, 49, 50, 51, 52, 53] (by decide +kernel) (by decide +kernel)
set_option maxRecDepth 20000 in
theorem gX6_then_X6_goOn : GoodIn wsX6_then (wsV RX6 145 RX6 yX6_goOn wsX6_goOn) := goodIn_app (goodIn_of _ (by decide +kernel)) ggX6_then_X6_goOn
set_option maxRecDepth 20000 in
theorem ggX6_then_X6_bentOnes : GoodIn wsX6_then wsX6_bentOnes := goodIn_r _ [23, 24, 25, 4, 26, 27, 28, 29, 30, 31, 32, 33, 34, 35, 36, 37, 38] (by decide +kernel) (by decide +kernel)
set_option maxRecDepth 20000 in
theorem gX6_then_X6_bentOnes : GoodIn wsX6_then (va_wsS RX6 118 yX6_bentOnes wsX6_bentOnes) := goodIn_app (goodIn_of _ (by decide +kernel)) ggX6_then_X6_bentOnes
theorem dX6_then_0 : decode cX6_then 0 = .ok (.iload_n 1, 1) := by decide +kernel
theorem dX6_then_1 : decode cX6_then 1 = .ok (.iconst 0, 1) := by decide +kernel
theorem dX6_then_2 : decode cX6_then 2 = .ok (.bipush 60, 2) := by decide +kernel
theorem dX6_then_4 : decode cX6_then 4 = .ok (.invokestatic 38, 3) := by decide +kernel
theorem dX6_then_7 : decode cX6_then 7 = .ok (.ifCond .ne 5, 3) := by decide +kernel
theorem dX6_then_10 : decode cX6_then 10 = .ok (.iconst (-1), 1) := by decide +kernel
theorem dX6_then_11 : decode cX6_then 11 = .ok (.ireturn, 1) := by decide +kernel
theorem dX6_then_12 : decode cX6_then 12 = .ok (.aload_n 0, 1) := by decide +kernel
theorem dX6_then_13 : decode cX6_then 13 = .ok (.invokevirtual 142, 3) := by decide +kernel
theorem dX6_then_16 : decode cX6_then 16 = .ok (.aload_n 0, 1) := by decide +kernel
theorem dX6_then_17 : decode cX6_then 17 = .ok (.iload_n 1, 1) := by decide +kernel
theorem dX6_then_18 : decode cX6_then 18 = .ok (.invokevirtual 145, 3) := by decide +kernel
theorem dX6_then_21 : decode cX6_then 21 = .ok (.aload_n 0, 1) := by decide +kernel
theorem dX6_then_22 : decode cX6_then 22 = .ok (.getfield 26, 3) := by decide +kernel
theorem dX6_then_25 : decode cX6_then 25 = .ok (.invokestatic 118, 3) := by decide +kernel
theorem dX6_then_28 : decode cX6_then 28 = .ok (.ireturn, 1) := by decide +kernel
set_option maxRecDepth 20000 in
theorem ggX6_ever_X6_begin : GoodIn wsX6_ever wsX6_begin := goodIn_r _ [6, 7, 1, 8, 9, 5, 10, 32, 33, 34, 35, 36, 37, 38, 39, 40, 41, 42, 43, 44, 45, 46] (by decide +kernel) (by decide +kernel)
set_option maxRecDepth 20000 in
theorem gX6_ever_X6_begin : GoodIn wsX6_ever (wsV RX6 142 RX6 yX6_begin wsX6_begin) := goodIn_app (goodIn_of _ (by decide +kernel)) ggX6_ever_X6_begin
set_option maxRecDepth 20000 in
theorem ggX6_ever_X6_bentOnes : GoodIn wsX6_ever wsX6_bentOnes := goodIn_r _ [13, 14, 15, 5, 16, 17, 18, 19, 20, 21, 22, 23, 24, 25, 26, 27, 28] (by decide +kernel) (by decide +kernel)
set_option maxRecDepth 20000 in
theorem gX6_ever_X6_bentOnes : GoodIn wsX6_ever (va_wsS RX6 118 yX6_bentOnes wsX6_bentOnes) := goodIn_app (goodIn_of _ (by decide +kernel)) ggX6_ever_X6_bentOnes
set_option maxRecDepth 20000 in
theorem ggX6_ever_X6_dayIn : GoodIn wsX6_ever wsX6_dayIn := goodIn_r _ [31, 11, 12, 5, 13, 14, 15, 16, 17, 18, 19, 20, 21, 22, 23, 24, 25, 26, 27, 28] (by decide +kernel) (by decide +kernel)
set_option maxRecDepth 20000 in
theorem gX6_ever_X6_dayIn : GoodIn wsX6_ever (va_wsS RX6 131 yX6_dayIn wsX6_dayIn) := goodIn_app (goodIn_of _ (by decide +kernel)) ggX6_ever_X6_dayIn
theorem dX6_ever_0 : decode cX6_ever 0 = .ok (.aload_n 0, 1) := by decide +kernel
theorem dX6_ever_1 : decode cX6_ever 1 = .ok (.invokevirtual 142, 3) := by decide +kernel
theorem dX6_ever_4 : decode cX6_ever 4 = .ok (.iconst 0, 1) := by decide +kernel
theorem dX6_ever_5 : decode cX6_ever 5 = .ok (.istore_n 1, 1) := by decide +kernel
theorem dX6_ever_6 : decode cX6_ever 6 = .ok (.iconst 0, 1) := by decide +kernel
theorem dX6_ever_7 : decode cX6_ever 7 = .ok (.istore_n 2, 1) := by decide +kernel
theorem dX6_ever_8 : decode cX6_ever 8 = .ok (.iload_n 2, 1) := by decide +kernel
theorem dX6_ever_9 : decode cX6_ever 9 = .ok (.bipush 60, 2) := by decide +kernel
theorem dX6_ever_11 : decode cX6_ever 11 = .ok (.if_icmp .gt 26, 3) := by decide +kernel
theorem dX6_ever_14 : decode cX6_ever 14 = .ok (.iload_n 1, 1) := by decide +kernel
theorem dX6_ever_15 : decode cX6_ever 15 = .ok (.aload_n 0, 1) := by decide +kernel
theorem dX6_ever_16 : decode cX6_ever 16 = .ok (.getfield 26, 3) := by decide +kernel
theorem dX6_ever_19 : decode cX6_ever 19 = .ok (.invokestatic 118, 3) := by decide +kernel
theorem dX6_ever_22 : decode cX6_ever 22 = .ok (.ior, 1) := by decide +kernel
theorem dX6_ever_23 : decode cX6_ever 23 = .ok (.istore_n 1, 1) := by decide +kernel
theorem dX6_ever_24 : decode cX6_ever 24 = .ok (.aload_n 0, 1) := by decide +kernel
theorem dX6_ever_25 : decode cX6_ever 25 = .ok (.getfield 26, 3) := by decide +kernel
theorem dX6_ever_28 : decode cX6_ever 28 = .ok (.invokestatic 131, 3) := by decide +kernel
theorem dX6_ever_31 : decode cX6_ever 31 = .ok (.iinc 2 1, 3) := by decide +kernel
theorem dX6_ever_34 : decode cX6_ever 34 = .ok (.goto (-26), 3) := by decide +kernel
theorem dX6_ever_37 : decode cX6_ever 37 = .ok (.iload_n 1, 1) := by decide +kernel
theorem dX6_ever_38 : decode cX6_ever 38 = .ok (.ireturn, 1) := by decide +kernel
set_option maxRecDepth 20000 in
theorem ggX6_few_X6_layBest : GoodIn wsX6_few wsX6_layBest := goodIn_r _ [8, 1, 2, 9, 3, 10, 11, 12, 7, 13, 14, 15, 16, 17, 18, 19, 20, 21, 22, 23, 24, 25, 26, 27, 28, 29, 30, 31, 32, 33, 34, 35, 36, 37, 38, 39, 40, 41, 42, 43, 44, 45, 46, 54, 55, 56, 57, 58, 59, 60, 61, 62, 63, 64, 65, 66, 67, 68] (by decide +kernel) (by decide +kernel)
set_option maxRecDepth 20000 in
theorem gX6_few_X6_layBest : GoodIn wsX6_few (wsV RX6 164 RX6 yX6_layBest wsX6_layBest) := goodIn_app (goodIn_of _ (by decide +kernel)) ggX6_few_X6_layBest
set_option maxRecDepth 20000 in
theorem ggX6_few_X6_isMedal : GoodIn wsX6_few wsX6_isMedal := goodIn_r _ [50, 14, 51, 52, 7, 53, 54, 55, 56, 57, 58, 59, 60, 61, 62, 63, 64, 65, 66, 67, 68] (by decide +kernel) (by decide +kernel)
set_option maxRecDepth 20000 in
theorem gX6_few_X6_isMedal : GoodIn wsX6_few (wsV RX6 74 RX6 yX6_isMedal wsX6_isMedal) := goodIn_app (goodIn_of _ (by decide +kernel)) ggX6_few_X6_isMedal
theorem dX6_few_0 : decode cX6_few 0 = .ok (.iload_n 1, 1) := by decide +kernel
theorem dX6_few_1 : decode cX6_few 1 = .ok (.bipush (-2), 2) := by decide +kernel
theorem dX6_few_3 : decode cX6_few 3 = .ok (.if_icmp .ge 5, 3) := by decide +kernel
theorem dX6_few_6 : decode cX6_few 6 = .ok (.iconst (-1), 1) := by decide +kernel
theorem dX6_few_7 : decode cX6_few 7 = .ok (.ireturn, 1) := by decide +kernel
theorem dX6_few_8 : decode cX6_few 8 = .ok (.aload_n 0, 1) := by decide +kernel
theorem dX6_few_9 : decode cX6_few 9 = .ok (.iconst 0, 1) := by decide +kernel
theorem dX6_few_10 : decode cX6_few 10 = .ok (.invokevirtual 164, 3) := by decide +kernel
theorem dX6_few_13 : decode cX6_few 13 = .ok (.iload_n 1, 1) := by decide +kernel
theorem dX6_few_14 : decode cX6_few 14 = .ok (.iconst (-1), 1) := by decide +kernel
theorem dX6_few_15 : decode cX6_few 15 = .ok (.if_icmp .ne 10, 3) := by decide +kernel
theorem dX6_few_18 : decode cX6_few 18 = .ok (.aload_n 0, 1) := by decide +kernel
theorem dX6_few_19 : decode cX6_few 19 = .ok (.getfield 149, 3) := by decide +kernel
theorem dX6_few_22 : decode cX6_few 22 = .ok (.goto 35, 3) := by decide +kernel
theorem dX6_few_25 : decode cX6_few 25 = .ok (.iload_n 1, 1) := by decide +kernel
theorem dX6_few_26 : decode cX6_few 26 = .ok (.bipush (-2), 2) := by decide +kernel
theorem dX6_few_28 : decode cX6_few 28 = .ok (.if_icmp .ne 10, 3) := by decide +kernel
theorem dX6_few_31 : decode cX6_few 31 = .ok (.aload_n 0, 1) := by decide +kernel
theorem dX6_few_32 : decode cX6_few 32 = .ok (.getfield 152, 3) := by decide +kernel
theorem dX6_few_35 : decode cX6_few 35 = .ok (.goto 22, 3) := by decide +kernel
theorem dX6_few_38 : decode cX6_few 38 = .ok (.aload_n 0, 1) := by decide +kernel
theorem dX6_few_39 : decode cX6_few 39 = .ok (.iload_n 1, 1) := by decide +kernel
theorem dX6_few_40 : decode cX6_few 40 = .ok (.invokevirtual 74, 3) := by decide +kernel
theorem dX6_few_43 : decode cX6_few 43 = .ok (.ifCond .eq 12, 3) := by decide +kernel
theorem dX6_few_46 : decode cX6_few 46 = .ok (.aload_n 0, 1) := by decide +kernel
theorem dX6_few_47 : decode cX6_few 47 = .ok (.getfield 35, 3) := by decide +kernel
theorem dX6_few_50 : decode cX6_few 50 = .ok (.iload_n 1, 1) := by decide +kernel
theorem dX6_few_51 : decode cX6_few 51 = .ok (.iaload, 1) := by decide +kernel
theorem dX6_few_52 : decode cX6_few 52 = .ok (.goto 5, 3) := by decide +kernel
theorem dX6_few_55 : decode cX6_few 55 = .ok (.bipush (-4), 2) := by decide +kernel
theorem dX6_few_57 : decode cX6_few 57 = .ok (.ireturn, 1) := by decide +kernel
set_option maxRecDepth 20000 in
theorem ggX6_off_X6_in : GoodIn wsX6_off wsX6_in := goodIn_r _ [6] (by decide +kernel) (by decide +kernel)
set_option maxRecDepth 20000 in
theorem gX6_off_X6_in : GoodIn wsX6_off (va_wsS RX6 38 yX6_in wsX6_in) := goodIn_app (goodIn_of _ (by decide +kernel)) ggX6_off_X6_in
set_option maxRecDepth 20000 in
theorem ggX6_off_X6_begin : GoodIn wsX6_off wsX6_begin := goodIn_r _ [10, 1, 2, 11, 12, 5, 13, 39, 40, 41, 42, 43, 44, 45, 46, 47, 48, 49, 50, 51, 52, 53] (by decide +kernel) (by decide +kernel)
set_option maxRecDepth 20000 in
theorem gX6_off_X6_begin : GoodIn wsX6_off (wsV RX6 142 RX6 yX6_begin wsX6_begin) := goodIn_app (goodIn_of _ (by decide +kernel)) ggX6_off_X6_begin
set_option maxRecDepth 20000 in
theorem ggX6_off_X6_goOn : GoodIn wsX6_off wsX6_goOn := goodIn_r _ [17, 2, 18, 19, 5, 20, 21, 22, 23, 24, 25, 26, 27, 28, 29, 30, 31, 32, 33, 34, 35, 36, 37, 38, 39, 40, 41, 42, 43, 44, 45, 46, 47, 48, 49, 50, 51, 52, 53] (by decide +kernel) (by decide +kernel)
set_option maxRecDepth 20000 in
theorem gX6_off_X6_goOn : GoodIn wsX6_off (wsV RX6 145 RX6 yX6_goOn wsX6_goOn) := goodIn_app (goodIn_of _ (by decide +kernel)) ggX6_off_X6_goOn
set_option maxRecDepth 20000 in
theorem ggX6_off_X6_bentOnes : GoodIn wsX6_off wsX6_bentOnes := goodIn_r _ [23, 24, 25, 5, 26, 27, 28, 29, 30, 31, 32, 33, 34, 35, 36, 37, 38] (by decide +kernel) (by decide +kernel)
set_option maxRecDepth 20000 in
theorem gX6_off_X6_bentOnes : GoodIn wsX6_off (va_wsS RX6 118 yX6_bentOnes wsX6_bentOnes) := goodIn_app (goodIn_of _ (by decide +kernel)) ggX6_off_X6_bentOnes
set_option maxRecDepth 20000 in
theorem ggX6_off_X6_bits : GoodIn wsX6_off wsX6_bits := goodIn_r _ [38] (by decide +kernel) (by decide +kernel)
set_option maxRecDepth 20000 in
theorem gX6_off_X6_bits : GoodIn wsX6_off (va_wsS RX6 57 yX6_bits wsX6_bits) := goodIn_app (goodIn_of _ (by decide +kernel)) ggX6_off_X6_bits
theorem dX6_off_0 : decode cX6_off 0 = .ok (.iload_n 1, 1) := by decide +kernel
theorem dX6_off_1 : decode cX6_off 1 = .ok (.iconst 1, 1) := by decide +kernel
theorem dX6_off_2 : decode cX6_off 2 = .ok (.bipush 40, 2) := by decide +kernel
theorem dX6_off_4 : decode cX6_off 4 = .ok (.invokestatic 38, 3) := by decide +kernel
theorem dX6_off_7 : decode cX6_off 7 = .ok (.ifCond .eq 12, 3) := by decide +kernel
theorem dX6_off_10 : decode cX6_off 10 = .ok (.iload_n 2, 1) := by decide +kernel
theorem dX6_off_11 : decode cX6_off 11 = .ok (.iconst 0, 1) := by decide +kernel
theorem dX6_off_12 : decode cX6_off 12 = .ok (.iconst 1, 1) := by decide +kernel
theorem dX6_off_13 : decode cX6_off 13 = .ok (.invokestatic 38, 3) := by decide +kernel
theorem dX6_off_16 : decode cX6_off 16 = .ok (.ifCond .ne 5, 3) := by decide +kernel
theorem dX6_off_19 : decode cX6_off 19 = .ok (.iconst (-1), 1) := by decide +kernel
theorem dX6_off_20 : decode cX6_off 20 = .ok (.ireturn, 1) := by decide +kernel
theorem dX6_off_21 : decode cX6_off 21 = .ok (.bipush (-4), 2) := by decide +kernel
theorem dX6_off_23 : decode cX6_off 23 = .ok (.istore_n 3, 1) := by decide +kernel
theorem dX6_off_24 : decode cX6_off 24 = .ok (.bipush (-4), 2) := by decide +kernel
theorem dX6_off_26 : decode cX6_off 26 = .ok (.istore 4, 2) := by decide +kernel
theorem dX6_off_28 : decode cX6_off 28 = .ok (.iconst 0, 1) := by decide +kernel
theorem dX6_off_29 : decode cX6_off 29 = .ok (.istore 5, 2) := by decide +kernel
theorem dX6_off_31 : decode cX6_off 31 = .ok (.iload 5, 2) := by decide +kernel
theorem dX6_off_33 : decode cX6_off 33 = .ok (.aload_n 0, 1) := by decide +kernel
theorem dX6_off_34 : decode cX6_off 34 = .ok (.getfield 23, 3) := by decide +kernel
theorem dX6_off_37 : decode cX6_off 37 = .ok (.bipush 25, 2) := by decide +kernel
theorem dX6_off_39 : decode cX6_off 39 = .ok (.iaload, 1) := by decide +kernel
theorem dX6_off_40 : decode cX6_off 40 = .ok (.if_icmp .ge 77, 3) := by decide +kernel
theorem dX6_off_43 : decode cX6_off 43 = .ok (.aload_n 0, 1) := by decide +kernel
theorem dX6_off_44 : decode cX6_off 44 = .ok (.getfield 23, 3) := by decide +kernel
theorem dX6_off_47 : decode cX6_off 47 = .ok (.bipush 13, 2) := by decide +kernel
theorem dX6_off_49 : decode cX6_off 49 = .ok (.iload 5, 2) := by decide +kernel
theorem dX6_off_51 : decode cX6_off 51 = .ok (.iadd, 1) := by decide +kernel
theorem dX6_off_52 : decode cX6_off 52 = .ok (.iaload, 1) := by decide +kernel
theorem dX6_off_53 : decode cX6_off 53 = .ok (.bipush (-4), 2) := by decide +kernel
theorem dX6_off_55 : decode cX6_off 55 = .ok (.if_icmp .eq 56, 3) := by decide +kernel
theorem dX6_off_58 : decode cX6_off 58 = .ok (.aload_n 0, 1) := by decide +kernel
theorem dX6_off_59 : decode cX6_off 59 = .ok (.invokevirtual 142, 3) := by decide +kernel
theorem dX6_off_62 : decode cX6_off 62 = .ok (.aload_n 0, 1) := by decide +kernel
theorem dX6_off_63 : decode cX6_off 63 = .ok (.getfield 26, 3) := by decide +kernel
theorem dX6_off_66 : decode cX6_off 66 = .ok (.bipush 13, 2) := by decide +kernel
theorem dX6_off_68 : decode cX6_off 68 = .ok (.iload 5, 2) := by decide +kernel
theorem dX6_off_70 : decode cX6_off 70 = .ok (.iadd, 1) := by decide +kernel
theorem dX6_off_71 : decode cX6_off 71 = .ok (.bipush (-4), 2) := by decide +kernel
theorem dX6_off_73 : decode cX6_off 73 = .ok (.iastore, 1) := by decide +kernel
theorem dX6_off_74 : decode cX6_off 74 = .ok (.aload_n 0, 1) := by decide +kernel
theorem dX6_off_75 : decode cX6_off 75 = .ok (.iload_n 1, 1) := by decide +kernel
theorem dX6_off_76 : decode cX6_off 76 = .ok (.invokevirtual 145, 3) := by decide +kernel
theorem dX6_off_79 : decode cX6_off 79 = .ok (.aload_n 0, 1) := by decide +kernel
theorem dX6_off_80 : decode cX6_off 80 = .ok (.getfield 26, 3) := by decide +kernel
theorem dX6_off_83 : decode cX6_off 83 = .ok (.invokestatic 118, 3) := by decide +kernel
theorem dX6_off_86 : decode cX6_off 86 = .ok (.invokestatic 57, 3) := by decide +kernel
theorem dX6_off_89 : decode cX6_off 89 = .ok (.istore 6, 2) := by decide +kernel
theorem dX6_off_91 : decode cX6_off 91 = .ok (.iload_n 3, 1) := by decide +kernel
theorem dX6_off_92 : decode cX6_off 92 = .ok (.bipush (-4), 2) := by decide +kernel
theorem dX6_off_94 : decode cX6_off 94 = .ok (.if_icmp .eq 10, 3) := by decide +kernel
theorem dX6_off_97 : decode cX6_off 97 = .ok (.iload 6, 2) := by decide +kernel
theorem dX6_off_99 : decode cX6_off 99 = .ok (.iload 4, 2) := by decide +kernel
theorem dX6_off_101 : decode cX6_off 101 = .ok (.if_icmp .ge 10, 3) := by decide +kernel
theorem dX6_off_104 : decode cX6_off 104 = .ok (.iload 5, 2) := by decide +kernel
theorem dX6_off_106 : decode cX6_off 106 = .ok (.istore_n 3, 1) := by decide +kernel
theorem dX6_off_107 : decode cX6_off 107 = .ok (.iload 6, 2) := by decide +kernel
theorem dX6_off_109 : decode cX6_off 109 = .ok (.istore 4, 2) := by decide +kernel
theorem dX6_off_111 : decode cX6_off 111 = .ok (.iinc 5 1, 3) := by decide +kernel
theorem dX6_off_114 : decode cX6_off 114 = .ok (.goto (-83), 3) := by decide +kernel
theorem dX6_off_117 : decode cX6_off 117 = .ok (.iload_n 2, 1) := by decide +kernel
theorem dX6_off_118 : decode cX6_off 118 = .ok (.ifCond .ne 7, 3) := by decide +kernel
theorem dX6_off_121 : decode cX6_off 121 = .ok (.iload_n 3, 1) := by decide +kernel
theorem dX6_off_122 : decode cX6_off 122 = .ok (.goto 5, 3) := by decide +kernel
theorem dX6_off_125 : decode cX6_off 125 = .ok (.iload 4, 2) := by decide +kernel
theorem dX6_off_127 : decode cX6_off 127 = .ok (.ireturn, 1) := by decide +kernel
set_option maxRecDepth 20000 in
theorem ggX6_isUpright_X6_isBent : GoodIn wsX6_isUpright wsX6_isBent := goodIn_r _ [5, 6, 7, 4, 8, 9, 10, 11, 12, 13, 14, 15, 16, 17] (by decide +kernel) (by decide +kernel)
set_option maxRecDepth 20000 in
theorem gX6_isUpright_X6_isBent : GoodIn wsX6_isUpright (va_wsS RX6 67 yX6_isBent wsX6_isBent) := goodIn_app (goodIn_of _ (by decide +kernel)) ggX6_isUpright_X6_isBent
set_option maxRecDepth 20000 in
theorem ggX6_isUpright_X6_dayIn : GoodIn wsX6_isUpright wsX6_dayIn := goodIn_r _ [20, 21, 22, 4, 23, 2, 3, 5, 6, 7, 8, 9, 10, 11, 12, 13, 14, 15, 16, 17] (by decide +kernel) (by decide +kernel)
set_option maxRecDepth 20000 in
theorem gX6_isUpright_X6_dayIn : GoodIn wsX6_isUpright (va_wsS RX6 131 yX6_dayIn wsX6_dayIn) := goodIn_app (goodIn_of _ (by decide +kernel)) ggX6_isUpright_X6_dayIn
theorem dX6_isUpright_0 : decode cX6_isUpright 0 = .ok (.aload_n 0, 1) := by decide +kernel
theorem dX6_isUpright_1 : decode cX6_isUpright 1 = .ok (.getfield 26, 3) := by decide +kernel
theorem dX6_isUpright_4 : decode cX6_isUpright 4 = .ok (.iload_n 1, 1) := by decide +kernel
theorem dX6_isUpright_5 : decode cX6_isUpright 5 = .ok (.invokestatic 67, 3) := by decide +kernel
theorem dX6_isUpright_8 : decode cX6_isUpright 8 = .ok (.ifCond .ne 7, 3) := by decide +kernel
theorem dX6_isUpright_11 : decode cX6_isUpright 11 = .ok (.iconst 1, 1) := by decide +kernel
theorem dX6_isUpright_12 : decode cX6_isUpright 12 = .ok (.goto 4, 3) := by decide +kernel
theorem dX6_isUpright_15 : decode cX6_isUpright 15 = .ok (.iconst 0, 1) := by decide +kernel
theorem dX6_isUpright_16 : decode cX6_isUpright 16 = .ok (.istore_n 3, 1) := by decide +kernel
theorem dX6_isUpright_17 : decode cX6_isUpright 17 = .ok (.iconst 0, 1) := by decide +kernel
theorem dX6_isUpright_18 : decode cX6_isUpright 18 = .ok (.istore 4, 2) := by decide +kernel
theorem dX6_isUpright_20 : decode cX6_isUpright 20 = .ok (.iload 4, 2) := by decide +kernel
theorem dX6_isUpright_22 : decode cX6_isUpright 22 = .ok (.iload_n 2, 1) := by decide +kernel
theorem dX6_isUpright_23 : decode cX6_isUpright 23 = .ok (.if_icmp .ge 37, 3) := by decide +kernel
theorem dX6_isUpright_26 : decode cX6_isUpright 26 = .ok (.iload_n 3, 1) := by decide +kernel
theorem dX6_isUpright_27 : decode cX6_isUpright 27 = .ok (.ifCond .eq 33, 3) := by decide +kernel
theorem dX6_isUpright_30 : decode cX6_isUpright 30 = .ok (.aload_n 0, 1) := by decide +kernel
theorem dX6_isUpright_31 : decode cX6_isUpright 31 = .ok (.getfield 26, 3) := by decide +kernel
theorem dX6_isUpright_34 : decode cX6_isUpright 34 = .ok (.invokestatic 131, 3) := by decide +kernel
theorem dX6_isUpright_37 : decode cX6_isUpright 37 = .ok (.aload_n 0, 1) := by decide +kernel
theorem dX6_isUpright_38 : decode cX6_isUpright 38 = .ok (.getfield 26, 3) := by decide +kernel
theorem dX6_isUpright_41 : decode cX6_isUpright 41 = .ok (.iload_n 1, 1) := by decide +kernel
theorem dX6_isUpright_42 : decode cX6_isUpright 42 = .ok (.invokestatic 67, 3) := by decide +kernel
theorem dX6_isUpright_45 : decode cX6_isUpright 45 = .ok (.ifCond .ne 7, 3) := by decide +kernel
theorem dX6_isUpright_48 : decode cX6_isUpright 48 = .ok (.iconst 1, 1) := by decide +kernel
theorem dX6_isUpright_49 : decode cX6_isUpright 49 = .ok (.goto 4, 3) := by decide +kernel
theorem dX6_isUpright_52 : decode cX6_isUpright 52 = .ok (.iconst 0, 1) := by decide +kernel
theorem dX6_isUpright_53 : decode cX6_isUpright 53 = .ok (.istore_n 3, 1) := by decide +kernel
theorem dX6_isUpright_54 : decode cX6_isUpright 54 = .ok (.iinc 4 1, 3) := by decide +kernel
theorem dX6_isUpright_57 : decode cX6_isUpright 57 = .ok (.goto (-37), 3) := by decide +kernel
theorem dX6_isUpright_60 : decode cX6_isUpright 60 = .ok (.iload_n 3, 1) := by decide +kernel
theorem dX6_isUpright_61 : decode cX6_isUpright 61 = .ok (.ireturn, 1) := by decide +kernel
set_option maxRecDepth 20000 in
theorem ggX6_needs_X6_isMan : GoodIn wsX6_needs wsX6_isMan := goodIn_r _ [6, 7, 8, 9, 5, 10, 43, 44, 45, 46, 47, 48, 49, 50, 51, 52, 53, 54, 55, 56, 57] (by decide +kernel) (by decide +kernel)
set_option maxRecDepth 20000 in
theorem gX6_needs_X6_isMan : GoodIn wsX6_needs (wsV RX6 46 RX6 yX6_isMan wsX6_isMan) := goodIn_app (goodIn_of _ (by decide +kernel)) ggX6_needs_X6_isMan
set_option maxRecDepth 20000 in
theorem ggX6_needs_X6_in : GoodIn wsX6_needs wsX6_in := goodIn_r _ [10] (by decide +kernel) (by decide +kernel)
set_option maxRecDepth 20000 in
theorem gX6_needs_X6_in : GoodIn wsX6_needs (va_wsS RX6 38 yX6_in wsX6_in) := goodIn_app (goodIn_of _ (by decide +kernel)) ggX6_needs_X6_in
set_option maxRecDepth 20000 in
theorem ggX6_needs_X6_begin : GoodIn wsX6_needs wsX6_begin := goodIn_r _ [14, 7, 1, 15, 16, 5, 17, 43, 44, 45, 46, 47, 48, 49, 50, 51, 52, 53, 54, 55, 56, 57] (by decide +kernel) (by decide +kernel)
set_option maxRecDepth 20000 in
theorem gX6_needs_X6_begin : GoodIn wsX6_needs (wsV RX6 142 RX6 yX6_begin wsX6_begin) := goodIn_app (goodIn_of _ (by decide +kernel)) ggX6_needs_X6_begin
set_option maxRecDepth 20000 in
theorem ggX6_needs_X6_isUpright : GoodIn wsX6_needs wsX6_isUpright := goodIn_r _ [21, 1, 22, 23, 5, 24, 25, 26, 27, 28, 29, 30, 31, 32, 33, 34, 35, 36, 37, 38, 39, 40, 41, 42, 43, 44, 45, 46, 47, 48, 49, 50, 51, 52, 53, 54, 55, 56, 57] (by decide +kernel) (by decide +kernel)
set_option maxRecDepth 20000 in
theorem gX6_needs_X6_isUpright : GoodIn wsX6_needs (wsV RX6 168 RX6 yX6_isUpright wsX6_isUpright) := goodIn_app (goodIn_of _ (by decide +kernel)) ggX6_needs_X6_isUpright
theorem dX6_needs_0 : decode cX6_needs 0 = .ok (.aload_n 0, 1) := by decide +kernel
theorem dX6_needs_1 : decode cX6_needs 1 = .ok (.iload_n 1, 1) := by decide +kernel
theorem dX6_needs_2 : decode cX6_needs 2 = .ok (.invokevirtual 46, 3) := by decide +kernel
theorem dX6_needs_5 : decode cX6_needs 5 = .ok (.ifCond .eq 13, 3) := by decide +kernel
theorem dX6_needs_8 : decode cX6_needs 8 = .ok (.iload_n 2, 1) := by decide +kernel
theorem dX6_needs_9 : decode cX6_needs 9 = .ok (.iconst 1, 1) := by decide +kernel
theorem dX6_needs_10 : decode cX6_needs 10 = .ok (.bipush 40, 2) := by decide +kernel
theorem dX6_needs_12 : decode cX6_needs 12 = .ok (.invokestatic 38, 3) := by decide +kernel
theorem dX6_needs_15 : decode cX6_needs 15 = .ok (.ifCond .ne 5, 3) := by decide +kernel
theorem dX6_needs_18 : decode cX6_needs 18 = .ok (.iconst (-1), 1) := by decide +kernel
theorem dX6_needs_19 : decode cX6_needs 19 = .ok (.ireturn, 1) := by decide +kernel
theorem dX6_needs_20 : decode cX6_needs 20 = .ok (.iconst 0, 1) := by decide +kernel
theorem dX6_needs_21 : decode cX6_needs 21 = .ok (.istore_n 3, 1) := by decide +kernel
theorem dX6_needs_22 : decode cX6_needs 22 = .ok (.iload_n 3, 1) := by decide +kernel
theorem dX6_needs_23 : decode cX6_needs 23 = .ok (.sipush 200, 3) := by decide +kernel
theorem dX6_needs_26 : decode cX6_needs 26 = .ok (.if_icmp .gt 68, 3) := by decide +kernel
theorem dX6_needs_29 : decode cX6_needs 29 = .ok (.aload_n 0, 1) := by decide +kernel
theorem dX6_needs_30 : decode cX6_needs 30 = .ok (.invokevirtual 142, 3) := by decide +kernel
theorem dX6_needs_33 : decode cX6_needs 33 = .ok (.aload_n 0, 1) := by decide +kernel
theorem dX6_needs_34 : decode cX6_needs 34 = .ok (.getfield 26, 3) := by decide +kernel
theorem dX6_needs_37 : decode cX6_needs 37 = .ok (.iconst 2, 1) := by decide +kernel
theorem dX6_needs_38 : decode cX6_needs 38 = .ok (.iload_n 1, 1) := by decide +kernel
theorem dX6_needs_39 : decode cX6_needs 39 = .ok (.iadd, 1) := by decide +kernel
theorem dX6_needs_40 : decode cX6_needs 40 = .ok (.iload_n 3, 1) := by decide +kernel
theorem dX6_needs_41 : decode cX6_needs 41 = .ok (.iastore, 1) := by decide +kernel
theorem dX6_needs_42 : decode cX6_needs 42 = .ok (.aload_n 0, 1) := by decide +kernel
theorem dX6_needs_43 : decode cX6_needs 43 = .ok (.getfield 26, 3) := by decide +kernel
theorem dX6_needs_46 : decode cX6_needs 46 = .ok (.bipush 20, 2) := by decide +kernel
theorem dX6_needs_48 : decode cX6_needs 48 = .ok (.iload_n 1, 1) := by decide +kernel
theorem dX6_needs_49 : decode cX6_needs 49 = .ok (.iadd, 1) := by decide +kernel
theorem dX6_needs_50 : decode cX6_needs 50 = .ok (.aload_n 0, 1) := by decide +kernel
theorem dX6_needs_51 : decode cX6_needs 51 = .ok (.getfield 26, 3) := by decide +kernel
theorem dX6_needs_54 : decode cX6_needs 54 = .ok (.bipush 20, 2) := by decide +kernel
theorem dX6_needs_56 : decode cX6_needs 56 = .ok (.iload_n 1, 1) := by decide +kernel
theorem dX6_needs_57 : decode cX6_needs 57 = .ok (.iadd, 1) := by decide +kernel
theorem dX6_needs_58 : decode cX6_needs 58 = .ok (.iaload, 1) := by decide +kernel
theorem dX6_needs_59 : decode cX6_needs 59 = .ok (.iload_n 3, 1) := by decide +kernel
theorem dX6_needs_60 : decode cX6_needs 60 = .ok (.if_icmp .ge 7, 3) := by decide +kernel
theorem dX6_needs_63 : decode cX6_needs 63 = .ok (.iload_n 3, 1) := by decide +kernel
theorem dX6_needs_64 : decode cX6_needs 64 = .ok (.goto 12, 3) := by decide +kernel
theorem dX6_needs_67 : decode cX6_needs 67 = .ok (.aload_n 0, 1) := by decide +kernel
theorem dX6_needs_68 : decode cX6_needs 68 = .ok (.getfield 26, 3) := by decide +kernel
theorem dX6_needs_71 : decode cX6_needs 71 = .ok (.bipush 20, 2) := by decide +kernel
theorem dX6_needs_73 : decode cX6_needs 73 = .ok (.iload_n 1, 1) := by decide +kernel
theorem dX6_needs_74 : decode cX6_needs 74 = .ok (.iadd, 1) := by decide +kernel
theorem dX6_needs_75 : decode cX6_needs 75 = .ok (.iaload, 1) := by decide +kernel
theorem dX6_needs_76 : decode cX6_needs 76 = .ok (.iastore, 1) := by decide +kernel
theorem dX6_needs_77 : decode cX6_needs 77 = .ok (.aload_n 0, 1) := by decide +kernel
theorem dX6_needs_78 : decode cX6_needs 78 = .ok (.iload_n 1, 1) := by decide +kernel
theorem dX6_needs_79 : decode cX6_needs 79 = .ok (.iload_n 2, 1) := by decide +kernel
theorem dX6_needs_80 : decode cX6_needs 80 = .ok (.invokevirtual 168, 3) := by decide +kernel
theorem dX6_needs_83 : decode cX6_needs 83 = .ok (.ifCond .eq 5, 3) := by decide +kernel
theorem dX6_needs_86 : decode cX6_needs 86 = .ok (.iload_n 3, 1) := by decide +kernel
theorem dX6_needs_87 : decode cX6_needs 87 = .ok (.ireturn, 1) := by decide +kernel
theorem dX6_needs_88 : decode cX6_needs 88 = .ok (.iinc 3 1, 3) := by decide +kernel
theorem dX6_needs_91 : decode cX6_needs 91 = .ok (.goto (-69), 3) := by decide +kernel
theorem dX6_needs_94 : decode cX6_needs 94 = .ok (.bipush (-4), 2) := by decide +kernel
theorem dX6_needs_96 : decode cX6_needs 96 = .ok (.ireturn, 1) := by decide +kernel
set_option maxRecDepth 20000 in
theorem ggX6_image_X6_bring : GoodIn wsX6_image wsX6_bring := goodIn_r _ [7] (by decide +kernel) (by decide +kernel)
set_option maxRecDepth 20000 in
theorem gX6_image_X6_bring : GoodIn wsX6_image (va_wsS RX6 114 yX6_bring wsX6_bring) := goodIn_app (goodIn_of _ (by decide +kernel)) ggX6_image_X6_bring
theorem dX6_image_0 : decode cX6_image 0 = .ok (.aload_n 0, 1) := by decide +kernel
theorem dX6_image_1 : decode cX6_image 1 = .ok (.getfield 23, 3) := by decide +kernel
theorem dX6_image_4 : decode cX6_image 4 = .ok (.iconst 0, 1) := by decide +kernel
theorem dX6_image_5 : decode cX6_image 5 = .ok (.aload_n 0, 1) := by decide +kernel
theorem dX6_image_6 : decode cX6_image 6 = .ok (.getfield 32, 3) := by decide +kernel
theorem dX6_image_9 : decode cX6_image 9 = .ok (.iconst 0, 1) := by decide +kernel
theorem dX6_image_10 : decode cX6_image 10 = .ok (.sipush 191, 3) := by decide +kernel
theorem dX6_image_13 : decode cX6_image 13 = .ok (.invokestatic 114, 3) := by decide +kernel
theorem dX6_image_16 : decode cX6_image 16 = .ok (.aload_n 0, 1) := by decide +kernel
theorem dX6_image_17 : decode cX6_image 17 = .ok (.iconst 1, 1) := by decide +kernel
theorem dX6_image_18 : decode cX6_image 18 = .ok (.putfield 171, 3) := by decide +kernel
theorem dX6_image_21 : decode cX6_image 21 = .ok (.iconst 1, 1) := by decide +kernel
theorem dX6_image_22 : decode cX6_image 22 = .ok (.ireturn, 1) := by decide +kernel
set_option maxRecDepth 20000 in
theorem ggX6_restore_X6_bring : GoodIn wsX6_restore wsX6_bring := goodIn_r _ [7] (by decide +kernel) (by decide +kernel)
set_option maxRecDepth 20000 in
theorem gX6_restore_X6_bring : GoodIn wsX6_restore (va_wsS RX6 114 yX6_bring wsX6_bring) := goodIn_app (goodIn_of _ (by decide +kernel)) ggX6_restore_X6_bring
theorem dX6_restore_0 : decode cX6_restore 0 = .ok (.aload_n 0, 1) := by decide +kernel
theorem dX6_restore_1 : decode cX6_restore 1 = .ok (.getfield 171, 3) := by decide +kernel
theorem dX6_restore_4 : decode cX6_restore 4 = .ok (.ifCond .ne 6, 3) := by decide +kernel
theorem dX6_restore_7 : decode cX6_restore 7 = .ok (.bipush (-4), 2) := by decide +kernel
theorem dX6_restore_9 : decode cX6_restore 9 = .ok (.ireturn, 1) := by decide +kernel
theorem dX6_restore_10 : decode cX6_restore 10 = .ok (.aload_n 0, 1) := by decide +kernel
theorem dX6_restore_11 : decode cX6_restore 11 = .ok (.getfield 32, 3) := by decide +kernel
theorem dX6_restore_14 : decode cX6_restore 14 = .ok (.iconst 0, 1) := by decide +kernel
theorem dX6_restore_15 : decode cX6_restore 15 = .ok (.aload_n 0, 1) := by decide +kernel
theorem dX6_restore_16 : decode cX6_restore 16 = .ok (.getfield 23, 3) := by decide +kernel
theorem dX6_restore_19 : decode cX6_restore 19 = .ok (.iconst 0, 1) := by decide +kernel
theorem dX6_restore_20 : decode cX6_restore 20 = .ok (.sipush 191, 3) := by decide +kernel
theorem dX6_restore_23 : decode cX6_restore 23 = .ok (.invokestatic 114, 3) := by decide +kernel
theorem dX6_restore_26 : decode cX6_restore 26 = .ok (.iconst 1, 1) := by decide +kernel
theorem dX6_restore_27 : decode cX6_restore 27 = .ok (.ireturn, 1) := by decide +kernel
set_option maxRecDepth 20000 in
theorem ggX6_wrong_X6_isPart : GoodIn wsX6_wrong wsX6_isPart := goodIn_r _ [6] (by decide +kernel) (by decide +kernel)
set_option maxRecDepth 20000 in
theorem gX6_wrong_X6_isPart : GoodIn wsX6_wrong (va_wsS RX6 175 yX6_isPart wsX6_isPart) := goodIn_app (goodIn_of _ (by decide +kernel)) ggX6_wrong_X6_isPart
theorem dX6_wrong_0 : decode cX6_wrong 0 = .ok (.aload_n 0, 1) := by decide +kernel
theorem dX6_wrong_1 : decode cX6_wrong 1 = .ok (.getfield 7, 3) := by decide +kernel
theorem dX6_wrong_4 : decode cX6_wrong 4 = .ok (.iload_n 1, 1) := by decide +kernel
theorem dX6_wrong_5 : decode cX6_wrong 5 = .ok (.iaload, 1) := by decide +kernel
theorem dX6_wrong_6 : decode cX6_wrong 6 = .ok (.ifCond .ge 8, 3) := by decide +kernel
theorem dX6_wrong_9 : decode cX6_wrong 9 = .ok (.bipush (-11), 2) := by decide +kernel
theorem dX6_wrong_11 : decode cX6_wrong 11 = .ok (.goto 39, 3) := by decide +kernel
theorem dX6_wrong_14 : decode cX6_wrong 14 = .ok (.aload_n 0, 1) := by decide +kernel
theorem dX6_wrong_15 : decode cX6_wrong 15 = .ok (.getfield 7, 3) := by decide +kernel
theorem dX6_wrong_18 : decode cX6_wrong 18 = .ok (.iload_n 1, 1) := by decide +kernel
theorem dX6_wrong_19 : decode cX6_wrong 19 = .ok (.iaload, 1) := by decide +kernel
theorem dX6_wrong_20 : decode cX6_wrong 20 = .ok (.iload_n 2, 1) := by decide +kernel
theorem dX6_wrong_21 : decode cX6_wrong 21 = .ok (.if_icmp .eq 8, 3) := by decide +kernel
theorem dX6_wrong_24 : decode cX6_wrong 24 = .ok (.bipush (-12), 2) := by decide +kernel
theorem dX6_wrong_26 : decode cX6_wrong 26 = .ok (.goto 24, 3) := by decide +kernel
theorem dX6_wrong_29 : decode cX6_wrong 29 = .ok (.iload_n 3, 1) := by decide +kernel
theorem dX6_wrong_30 : decode cX6_wrong 30 = .ok (.iload 4, 2) := by decide +kernel
theorem dX6_wrong_32 : decode cX6_wrong 32 = .ok (.aload_n 0, 1) := by decide +kernel
theorem dX6_wrong_33 : decode cX6_wrong 33 = .ok (.getfield 13, 3) := by decide +kernel
theorem dX6_wrong_36 : decode cX6_wrong 36 = .ok (.iload_n 1, 1) := by decide +kernel
theorem dX6_wrong_37 : decode cX6_wrong 37 = .ok (.iaload, 1) := by decide +kernel
theorem dX6_wrong_38 : decode cX6_wrong 38 = .ok (.invokestatic 175, 3) := by decide +kernel
theorem dX6_wrong_41 : decode cX6_wrong 41 = .ok (.ifCond .eq 7, 3) := by decide +kernel
theorem dX6_wrong_44 : decode cX6_wrong 44 = .ok (.iconst 0, 1) := by decide +kernel
theorem dX6_wrong_45 : decode cX6_wrong 45 = .ok (.goto 5, 3) := by decide +kernel
theorem dX6_wrong_48 : decode cX6_wrong 48 = .ok (.bipush (-13), 2) := by decide +kernel
theorem dX6_wrong_50 : decode cX6_wrong 50 = .ok (.ireturn, 1) := by decide +kernel
set_option maxRecDepth 20000 in
theorem ggX6_isFelt_X6_dayIn : GoodIn wsX6_isFelt wsX6_dayIn := goodIn_r _ [6, 7, 8, 5, 9, 10, 11, 12, 13, 14, 15, 16, 17, 18, 19, 20, 21, 22, 23, 24] (by decide +kernel) (by decide +kernel)
set_option maxRecDepth 20000 in
theorem gX6_isFelt_X6_dayIn : GoodIn wsX6_isFelt (va_wsS RX6 131 yX6_dayIn wsX6_dayIn) := goodIn_app (goodIn_of _ (by decide +kernel)) ggX6_isFelt_X6_dayIn
theorem dX6_isFelt_0 : decode cX6_isFelt 0 = .ok (.iconst 1, 1) := by decide +kernel
theorem dX6_isFelt_1 : decode cX6_isFelt 1 = .ok (.istore 5, 2) := by decide +kernel
theorem dX6_isFelt_3 : decode cX6_isFelt 3 = .ok (.iconst 0, 1) := by decide +kernel
theorem dX6_isFelt_4 : decode cX6_isFelt 4 = .ok (.istore 6, 2) := by decide +kernel
theorem dX6_isFelt_6 : decode cX6_isFelt 6 = .ok (.iload 6, 2) := by decide +kernel
theorem dX6_isFelt_8 : decode cX6_isFelt 8 = .ok (.iload 4, 2) := by decide +kernel
theorem dX6_isFelt_10 : decode cX6_isFelt 10 = .ok (.if_icmp .ge 55, 3) := by decide +kernel
theorem dX6_isFelt_13 : decode cX6_isFelt 13 = .ok (.iload 5, 2) := by decide +kernel
theorem dX6_isFelt_15 : decode cX6_isFelt 15 = .ok (.ifCond .eq 50, 3) := by decide +kernel
theorem dX6_isFelt_18 : decode cX6_isFelt 18 = .ok (.aload_n 0, 1) := by decide +kernel
theorem dX6_isFelt_19 : decode cX6_isFelt 19 = .ok (.getfield 26, 3) := by decide +kernel
theorem dX6_isFelt_22 : decode cX6_isFelt 22 = .ok (.invokestatic 131, 3) := by decide +kernel
theorem dX6_isFelt_25 : decode cX6_isFelt 25 = .ok (.aload_n 0, 1) := by decide +kernel
theorem dX6_isFelt_26 : decode cX6_isFelt 26 = .ok (.getfield 26, 3) := by decide +kernel
theorem dX6_isFelt_29 : decode cX6_isFelt 29 = .ok (.iconst 2, 1) := by decide +kernel
theorem dX6_isFelt_30 : decode cX6_isFelt 30 = .ok (.iload_n 1, 1) := by decide +kernel
theorem dX6_isFelt_31 : decode cX6_isFelt 31 = .ok (.iadd, 1) := by decide +kernel
theorem dX6_isFelt_32 : decode cX6_isFelt 32 = .ok (.iaload, 1) := by decide +kernel
theorem dX6_isFelt_33 : decode cX6_isFelt 33 = .ok (.i2l, 1) := by decide +kernel
theorem dX6_isFelt_34 : decode cX6_isFelt 34 = .ok (.aload_n 0, 1) := by decide +kernel
theorem dX6_isFelt_35 : decode cX6_isFelt 35 = .ok (.getfield 16, 3) := by decide +kernel
theorem dX6_isFelt_38 : decode cX6_isFelt 38 = .ok (.bipush 24, 2) := by decide +kernel
theorem dX6_isFelt_40 : decode cX6_isFelt 40 = .ok (.iload_n 2, 1) := by decide +kernel
theorem dX6_isFelt_41 : decode cX6_isFelt 41 = .ok (.imul, 1) := by decide +kernel
theorem dX6_isFelt_42 : decode cX6_isFelt 42 = .ok (.iload_n 3, 1) := by decide +kernel
theorem dX6_isFelt_43 : decode cX6_isFelt 43 = .ok (.iadd, 1) := by decide +kernel
theorem dX6_isFelt_44 : decode cX6_isFelt 44 = .ok (.iload 6, 2) := by decide +kernel
theorem dX6_isFelt_46 : decode cX6_isFelt 46 = .ok (.iadd, 1) := by decide +kernel
theorem dX6_isFelt_47 : decode cX6_isFelt 47 = .ok (.laload, 1) := by decide +kernel
theorem dX6_isFelt_48 : decode cX6_isFelt 48 = .ok (.lcmp, 1) := by decide +kernel
theorem dX6_isFelt_49 : decode cX6_isFelt 49 = .ok (.ifCond .ne 7, 3) := by decide +kernel
theorem dX6_isFelt_52 : decode cX6_isFelt 52 = .ok (.iconst 1, 1) := by decide +kernel
theorem dX6_isFelt_53 : decode cX6_isFelt 53 = .ok (.goto 4, 3) := by decide +kernel
theorem dX6_isFelt_56 : decode cX6_isFelt 56 = .ok (.iconst 0, 1) := by decide +kernel
theorem dX6_isFelt_57 : decode cX6_isFelt 57 = .ok (.istore 5, 2) := by decide +kernel
theorem dX6_isFelt_59 : decode cX6_isFelt 59 = .ok (.iinc 6 1, 3) := by decide +kernel
theorem dX6_isFelt_62 : decode cX6_isFelt 62 = .ok (.goto (-56), 3) := by decide +kernel
theorem dX6_isFelt_65 : decode cX6_isFelt 65 = .ok (.iload 5, 2) := by decide +kernel
theorem dX6_isFelt_67 : decode cX6_isFelt 67 = .ok (.ireturn, 1) := by decide +kernel
set_option maxRecDepth 20000 in
theorem ggX6_felt_X6_isMan : GoodIn wsX6_felt wsX6_isMan := goodIn_r _ [7, 1, 8, 9, 6, 10, 60, 61, 62, 63, 64, 65, 66, 67, 68, 69, 70, 71, 72, 73, 74] (by decide +kernel) (by decide +kernel)
set_option maxRecDepth 20000 in
theorem gX6_felt_X6_isMan : GoodIn wsX6_felt (wsV RX6 46 RX6 yX6_isMan wsX6_isMan) := goodIn_app (goodIn_of _ (by decide +kernel)) ggX6_felt_X6_isMan
set_option maxRecDepth 20000 in
theorem ggX6_felt_X6_isMedal : GoodIn wsX6_felt wsX6_isMedal := goodIn_r _ [14, 1, 8, 9, 6, 10, 60, 61, 62, 63, 64, 65, 66, 67, 68, 69, 70, 71, 72, 73, 74] (by decide +kernel) (by decide +kernel)
set_option maxRecDepth 20000 in
theorem gX6_felt_X6_isMedal : GoodIn wsX6_felt (wsV RX6 74 RX6 yX6_isMedal wsX6_isMedal) := goodIn_app (goodIn_of _ (by decide +kernel)) ggX6_felt_X6_isMedal
set_option maxRecDepth 20000 in
theorem ggX6_felt_X6_isSheet : GoodIn wsX6_felt wsX6_isSheet := goodIn_r _ [17, 8, 9, 6, 10] (by decide +kernel) (by decide +kernel)
set_option maxRecDepth 20000 in
theorem gX6_felt_X6_isSheet : GoodIn wsX6_felt (va_wsS RX6 178 yX6_isSheet wsX6_isSheet) := goodIn_app (goodIn_of _ (by decide +kernel)) ggX6_felt_X6_isSheet
set_option maxRecDepth 20000 in
theorem ggX6_felt_X6_in : GoodIn wsX6_felt wsX6_in := goodIn_r _ [10] (by decide +kernel) (by decide +kernel)
set_option maxRecDepth 20000 in
theorem gX6_felt_X6_in : GoodIn wsX6_felt (va_wsS RX6 38 yX6_in wsX6_in) := goodIn_app (goodIn_of _ (by decide +kernel)) ggX6_felt_X6_in
set_option maxRecDepth 20000 in
theorem ggX6_felt_X6_wrong : GoodIn wsX6_felt wsX6_wrong := goodIn_r _ [21, 22, 23, 24, 25, 6, 26, 60, 61, 62, 63, 64, 65, 66, 67, 68, 69, 70, 71, 72, 73, 74] (by decide +kernel) (by decide +kernel)
set_option maxRecDepth 20000 in
theorem gX6_felt_X6_wrong : GoodIn wsX6_felt (wsV RX6 181 RX6 yX6_wrong wsX6_wrong) := goodIn_app (goodIn_of _ (by decide +kernel)) ggX6_felt_X6_wrong
set_option maxRecDepth 20000 in
theorem ggX6_felt_X6_begin : GoodIn wsX6_felt wsX6_begin := goodIn_r _ [30, 1, 2, 31, 32, 6, 33, 60, 61, 62, 63, 64, 65, 66, 67, 68, 69, 70, 71, 72, 73, 74] (by decide +kernel) (by decide +kernel)
set_option maxRecDepth 20000 in
theorem gX6_felt_X6_begin : GoodIn wsX6_felt (wsV RX6 142 RX6 yX6_begin wsX6_begin) := goodIn_app (goodIn_of _ (by decide +kernel)) ggX6_felt_X6_begin
set_option maxRecDepth 20000 in
theorem ggX6_felt_X6_isFelt : GoodIn wsX6_felt wsX6_isFelt := goodIn_r _ [37, 2, 38, 39, 40, 6, 41, 42, 43, 44, 45, 46, 47, 48, 49, 50, 51, 52, 53, 54, 55, 56, 57, 58, 59, 60, 61, 62, 63, 64, 65, 66, 67, 68, 69, 70, 71, 72, 73, 74] (by decide +kernel) (by decide +kernel)
set_option maxRecDepth 20000 in
theorem gX6_felt_X6_isFelt : GoodIn wsX6_felt (wsV RX6 185 RX6 yX6_isFelt wsX6_isFelt) := goodIn_app (goodIn_of _ (by decide +kernel)) ggX6_felt_X6_isFelt
theorem dX6_felt_0 : decode cX6_felt 0 = .ok (.aload_n 0, 1) := by decide +kernel
theorem dX6_felt_1 : decode cX6_felt 1 = .ok (.iload_n 1, 1) := by decide +kernel
theorem dX6_felt_2 : decode cX6_felt 2 = .ok (.invokevirtual 46, 3) := by decide +kernel
theorem dX6_felt_5 : decode cX6_felt 5 = .ok (.ifCond .eq 49, 3) := by decide +kernel
theorem dX6_felt_8 : decode cX6_felt 8 = .ok (.aload_n 0, 1) := by decide +kernel
theorem dX6_felt_9 : decode cX6_felt 9 = .ok (.iload_n 2, 1) := by decide +kernel
theorem dX6_felt_10 : decode cX6_felt 10 = .ok (.invokevirtual 74, 3) := by decide +kernel
theorem dX6_felt_13 : decode cX6_felt 13 = .ok (.ifCond .eq 41, 3) := by decide +kernel
theorem dX6_felt_16 : decode cX6_felt 16 = .ok (.iload_n 3, 1) := by decide +kernel
theorem dX6_felt_17 : decode cX6_felt 17 = .ok (.invokestatic 178, 3) := by decide +kernel
theorem dX6_felt_20 : decode cX6_felt 20 = .ok (.ifCond .eq 34, 3) := by decide +kernel
theorem dX6_felt_23 : decode cX6_felt 23 = .ok (.iload 4, 2) := by decide +kernel
theorem dX6_felt_25 : decode cX6_felt 25 = .ok (.iconst 0, 1) := by decide +kernel
theorem dX6_felt_26 : decode cX6_felt 26 = .ok (.iconst 3, 1) := by decide +kernel
theorem dX6_felt_27 : decode cX6_felt 27 = .ok (.invokestatic 38, 3) := by decide +kernel
theorem dX6_felt_30 : decode cX6_felt 30 = .ok (.ifCond .eq 24, 3) := by decide +kernel
theorem dX6_felt_33 : decode cX6_felt 33 = .ok (.iload 6, 2) := by decide +kernel
theorem dX6_felt_35 : decode cX6_felt 35 = .ok (.iconst 1, 1) := by decide +kernel
theorem dX6_felt_36 : decode cX6_felt 36 = .ok (.bipush 8, 2) := by decide +kernel
theorem dX6_felt_38 : decode cX6_felt 38 = .ok (.invokestatic 38, 3) := by decide +kernel
theorem dX6_felt_41 : decode cX6_felt 41 = .ok (.ifCond .eq 13, 3) := by decide +kernel
theorem dX6_felt_44 : decode cX6_felt 44 = .ok (.iload 7, 2) := by decide +kernel
theorem dX6_felt_46 : decode cX6_felt 46 = .ok (.iconst 0, 1) := by decide +kernel
theorem dX6_felt_47 : decode cX6_felt 47 = .ok (.iconst 2, 1) := by decide +kernel
theorem dX6_felt_48 : decode cX6_felt 48 = .ok (.invokestatic 38, 3) := by decide +kernel
theorem dX6_felt_51 : decode cX6_felt 51 = .ok (.ifCond .ne 5, 3) := by decide +kernel
theorem dX6_felt_54 : decode cX6_felt 54 = .ok (.iconst (-1), 1) := by decide +kernel
theorem dX6_felt_55 : decode cX6_felt 55 = .ok (.ireturn, 1) := by decide +kernel
theorem dX6_felt_56 : decode cX6_felt 56 = .ok (.aload_n 0, 1) := by decide +kernel
theorem dX6_felt_57 : decode cX6_felt 57 = .ok (.iload_n 3, 1) := by decide +kernel
theorem dX6_felt_58 : decode cX6_felt 58 = .ok (.iload 4, 2) := by decide +kernel
theorem dX6_felt_60 : decode cX6_felt 60 = .ok (.iload 5, 2) := by decide +kernel
theorem dX6_felt_62 : decode cX6_felt 62 = .ok (.iload 6, 2) := by decide +kernel
theorem dX6_felt_64 : decode cX6_felt 64 = .ok (.invokevirtual 181, 3) := by decide +kernel
theorem dX6_felt_67 : decode cX6_felt 67 = .ok (.istore 8, 2) := by decide +kernel
theorem dX6_felt_69 : decode cX6_felt 69 = .ok (.iload 8, 2) := by decide +kernel
theorem dX6_felt_71 : decode cX6_felt 71 = .ok (.ifCond .eq 6, 3) := by decide +kernel
theorem dX6_felt_74 : decode cX6_felt 74 = .ok (.iload 8, 2) := by decide +kernel
theorem dX6_felt_76 : decode cX6_felt 76 = .ok (.ireturn, 1) := by decide +kernel
theorem dX6_felt_77 : decode cX6_felt 77 = .ok (.iconst 0, 1) := by decide +kernel
theorem dX6_felt_78 : decode cX6_felt 78 = .ok (.istore 9, 2) := by decide +kernel
theorem dX6_felt_80 : decode cX6_felt 80 = .ok (.iload 7, 2) := by decide +kernel
theorem dX6_felt_82 : decode cX6_felt 82 = .ok (.iconst 1, 1) := by decide +kernel
theorem dX6_felt_83 : decode cX6_felt 83 = .ok (.if_icmp .ne 7, 3) := by decide +kernel
theorem dX6_felt_86 : decode cX6_felt 86 = .ok (.iconst 1, 1) := by decide +kernel
theorem dX6_felt_87 : decode cX6_felt 87 = .ok (.goto 4, 3) := by decide +kernel
theorem dX6_felt_90 : decode cX6_felt 90 = .ok (.iconst 0, 1) := by decide +kernel
theorem dX6_felt_91 : decode cX6_felt 91 = .ok (.istore 10, 2) := by decide +kernel
theorem dX6_felt_93 : decode cX6_felt 93 = .ok (.iload 10, 2) := by decide +kernel
theorem dX6_felt_95 : decode cX6_felt 95 = .ok (.iload 7, 2) := by decide +kernel
theorem dX6_felt_97 : decode cX6_felt 97 = .ok (.ifCond .ne 7, 3) := by decide +kernel
theorem dX6_felt_100 : decode cX6_felt 100 = .ok (.iconst 4, 1) := by decide +kernel
theorem dX6_felt_101 : decode cX6_felt 101 = .ok (.goto 23, 3) := by decide +kernel
theorem dX6_felt_104 : decode cX6_felt 104 = .ok (.iload 7, 2) := by decide +kernel
theorem dX6_felt_106 : decode cX6_felt 106 = .ok (.iconst 1, 1) := by decide +kernel
theorem dX6_felt_107 : decode cX6_felt 107 = .ok (.if_icmp .ne 8, 3) := by decide +kernel
theorem dX6_felt_110 : decode cX6_felt 110 = .ok (.bipush 20, 2) := by decide +kernel
theorem dX6_felt_112 : decode cX6_felt 112 = .ok (.goto 12, 3) := by decide +kernel
theorem dX6_felt_115 : decode cX6_felt 115 = .ok (.aload_n 0, 1) := by decide +kernel
theorem dX6_felt_116 : decode cX6_felt 116 = .ok (.getfield 23, 3) := by decide +kernel
theorem dX6_felt_119 : decode cX6_felt 119 = .ok (.bipush 19, 2) := by decide +kernel
theorem dX6_felt_121 : decode cX6_felt 121 = .ok (.iaload, 1) := by decide +kernel
theorem dX6_felt_122 : decode cX6_felt 122 = .ok (.iconst 1, 1) := by decide +kernel
theorem dX6_felt_123 : decode cX6_felt 123 = .ok (.isub, 1) := by decide +kernel
theorem dX6_felt_124 : decode cX6_felt 124 = .ok (.if_icmp .gt 71, 3) := by decide +kernel
theorem dX6_felt_127 : decode cX6_felt 127 = .ok (.aload_n 0, 1) := by decide +kernel
theorem dX6_felt_128 : decode cX6_felt 128 = .ok (.invokevirtual 142, 3) := by decide +kernel
theorem dX6_felt_131 : decode cX6_felt 131 = .ok (.aload_n 0, 1) := by decide +kernel
theorem dX6_felt_132 : decode cX6_felt 132 = .ok (.getfield 26, 3) := by decide +kernel
theorem dX6_felt_135 : decode cX6_felt 135 = .ok (.iload 7, 2) := by decide +kernel
theorem dX6_felt_137 : decode cX6_felt 137 = .ok (.ifCond .ne 8, 3) := by decide +kernel
theorem dX6_felt_140 : decode cX6_felt 140 = .ok (.bipush 26, 2) := by decide +kernel
theorem dX6_felt_142 : decode cX6_felt 142 = .ok (.goto 16, 3) := by decide +kernel
theorem dX6_felt_145 : decode cX6_felt 145 = .ok (.iload 7, 2) := by decide +kernel
theorem dX6_felt_147 : decode cX6_felt 147 = .ok (.iconst 1, 1) := by decide +kernel
theorem dX6_felt_148 : decode cX6_felt 148 = .ok (.if_icmp .ne 8, 3) := by decide +kernel
theorem dX6_felt_151 : decode cX6_felt 151 = .ok (.bipush 7, 2) := by decide +kernel
theorem dX6_felt_153 : decode cX6_felt 153 = .ok (.goto 5, 3) := by decide +kernel
theorem dX6_felt_156 : decode cX6_felt 156 = .ok (.bipush 32, 2) := by decide +kernel
theorem dX6_felt_158 : decode cX6_felt 158 = .ok (.iload_n 2, 1) := by decide +kernel
theorem dX6_felt_159 : decode cX6_felt 159 = .ok (.iadd, 1) := by decide +kernel
theorem dX6_felt_160 : decode cX6_felt 160 = .ok (.iload 10, 2) := by decide +kernel
theorem dX6_felt_162 : decode cX6_felt 162 = .ok (.iastore, 1) := by decide +kernel
theorem dX6_felt_163 : decode cX6_felt 163 = .ok (.iload 9, 2) := by decide +kernel
theorem dX6_felt_165 : decode cX6_felt 165 = .ok (.aload_n 0, 1) := by decide +kernel
theorem dX6_felt_166 : decode cX6_felt 166 = .ok (.iload_n 1, 1) := by decide +kernel
theorem dX6_felt_167 : decode cX6_felt 167 = .ok (.iload_n 3, 1) := by decide +kernel
theorem dX6_felt_168 : decode cX6_felt 168 = .ok (.iload 5, 2) := by decide +kernel
theorem dX6_felt_170 : decode cX6_felt 170 = .ok (.iload 6, 2) := by decide +kernel
theorem dX6_felt_172 : decode cX6_felt 172 = .ok (.invokevirtual 185, 3) := by decide +kernel
theorem dX6_felt_175 : decode cX6_felt 175 = .ok (.ifCond .eq 10, 3) := by decide +kernel
theorem dX6_felt_178 : decode cX6_felt 178 = .ok (.iconst 1, 1) := by decide +kernel
theorem dX6_felt_179 : decode cX6_felt 179 = .ok (.iload 10, 2) := by decide +kernel
theorem dX6_felt_181 : decode cX6_felt 181 = .ok (.ishl, 1) := by decide +kernel
theorem dX6_felt_182 : decode cX6_felt 182 = .ok (.goto 4, 3) := by decide +kernel
theorem dX6_felt_185 : decode cX6_felt 185 = .ok (.iconst 0, 1) := by decide +kernel
theorem dX6_felt_186 : decode cX6_felt 186 = .ok (.ior, 1) := by decide +kernel
theorem dX6_felt_187 : decode cX6_felt 187 = .ok (.istore 9, 2) := by decide +kernel
theorem dX6_felt_189 : decode cX6_felt 189 = .ok (.iinc 10 1, 3) := by decide +kernel
theorem dX6_felt_192 : decode cX6_felt 192 = .ok (.goto (-99), 3) := by decide +kernel
theorem dX6_felt_195 : decode cX6_felt 195 = .ok (.iload 9, 2) := by decide +kernel
theorem dX6_felt_197 : decode cX6_felt 197 = .ok (.ireturn, 1) := by decide +kernel
set_option maxRecDepth 20000 in
theorem ggX6_film_X6_isMan : GoodIn wsX6_film wsX6_isMan := goodIn_r _ [7, 8, 9, 10, 6, 11, 55, 56, 57, 58, 59, 60, 61, 62, 63, 64, 65, 66, 67, 68, 69] (by decide +kernel) (by decide +kernel)
set_option maxRecDepth 20000 in
theorem gX6_film_X6_isMan : GoodIn wsX6_film (wsV RX6 46 RX6 yX6_isMan wsX6_isMan) := goodIn_app (goodIn_of _ (by decide +kernel)) ggX6_film_X6_isMan
set_option maxRecDepth 20000 in
theorem ggX6_film_X6_in : GoodIn wsX6_film wsX6_in := goodIn_r _ [11] (by decide +kernel) (by decide +kernel)
set_option maxRecDepth 20000 in
theorem gX6_film_X6_in : GoodIn wsX6_film (va_wsS RX6 38 yX6_in wsX6_in) := goodIn_app (goodIn_of _ (by decide +kernel)) ggX6_film_X6_in
set_option maxRecDepth 20000 in
theorem ggX6_film_X6_isSheet : GoodIn wsX6_film wsX6_isSheet := goodIn_r _ [14, 9, 10, 6, 11] (by decide +kernel) (by decide +kernel)
set_option maxRecDepth 20000 in
theorem gX6_film_X6_isSheet : GoodIn wsX6_film (va_wsS RX6 178 yX6_isSheet wsX6_isSheet) := goodIn_app (goodIn_of _ (by decide +kernel)) ggX6_film_X6_isSheet
set_option maxRecDepth 20000 in
theorem ggX6_film_X6_wrong : GoodIn wsX6_film wsX6_wrong := goodIn_r _ [18, 19, 20, 21, 22, 6, 23, 55, 56, 57, 58, 59, 60, 61, 62, 63, 64, 65, 66, 67, 68, 69] (by decide +kernel) (by decide +kernel)
set_option maxRecDepth 20000 in
theorem gX6_film_X6_wrong : GoodIn wsX6_film (wsV RX6 181 RX6 yX6_wrong wsX6_wrong) := goodIn_app (goodIn_of _ (by decide +kernel)) ggX6_film_X6_wrong
set_option maxRecDepth 20000 in
theorem ggX6_film_X6_begin : GoodIn wsX6_film wsX6_begin := goodIn_r _ [27, 8, 1, 28, 29, 6, 30, 55, 56, 57, 58, 59, 60, 61, 62, 63, 64, 65, 66, 67, 68, 69] (by decide +kernel) (by decide +kernel)
set_option maxRecDepth 20000 in
theorem gX6_film_X6_begin : GoodIn wsX6_film (wsV RX6 142 RX6 yX6_begin wsX6_begin) := goodIn_app (goodIn_of _ (by decide +kernel)) ggX6_film_X6_begin
set_option maxRecDepth 20000 in
theorem ggX6_film_X6_dayIn : GoodIn wsX6_film wsX6_dayIn := goodIn_r _ [33, 34, 35, 6, 36, 37, 38, 39, 40, 41, 42, 43, 44, 45, 46, 47, 48, 49, 50, 51] (by decide +kernel) (by decide +kernel)
set_option maxRecDepth 20000 in
theorem gX6_film_X6_dayIn : GoodIn wsX6_film (va_wsS RX6 131 yX6_dayIn wsX6_dayIn) := goodIn_app (goodIn_of _ (by decide +kernel)) ggX6_film_X6_dayIn
set_option maxRecDepth 20000 in
theorem ggX6_film_X6_cutTo : GoodIn wsX6_film wsX6_cutTo := goodIn_r _ [54] (by decide +kernel) (by decide +kernel)
set_option maxRecDepth 20000 in
theorem gX6_film_X6_cutTo : GoodIn wsX6_film (va_wsS RX6 189 yX6_cutTo wsX6_cutTo) := goodIn_app (goodIn_of _ (by decide +kernel)) ggX6_film_X6_cutTo
theorem dX6_film_0 : decode cX6_film 0 = .ok (.aload_n 0, 1) := by decide +kernel
theorem dX6_film_1 : decode cX6_film 1 = .ok (.iload_n 1, 1) := by decide +kernel
theorem dX6_film_2 : decode cX6_film 2 = .ok (.invokevirtual 46, 3) := by decide +kernel
theorem dX6_film_5 : decode cX6_film 5 = .ok (.ifCond .eq 30, 3) := by decide +kernel
theorem dX6_film_8 : decode cX6_film 8 = .ok (.iload_n 2, 1) := by decide +kernel
theorem dX6_film_9 : decode cX6_film 9 = .ok (.iconst 1, 1) := by decide +kernel
theorem dX6_film_10 : decode cX6_film 10 = .ok (.bipush 24, 2) := by decide +kernel
theorem dX6_film_12 : decode cX6_film 12 = .ok (.invokestatic 38, 3) := by decide +kernel
theorem dX6_film_15 : decode cX6_film 15 = .ok (.ifCond .eq 20, 3) := by decide +kernel
theorem dX6_film_18 : decode cX6_film 18 = .ok (.iload_n 3, 1) := by decide +kernel
theorem dX6_film_19 : decode cX6_film 19 = .ok (.invokestatic 178, 3) := by decide +kernel
theorem dX6_film_22 : decode cX6_film 22 = .ok (.ifCond .eq 13, 3) := by decide +kernel
theorem dX6_film_25 : decode cX6_film 25 = .ok (.iload 4, 2) := by decide +kernel
theorem dX6_film_27 : decode cX6_film 27 = .ok (.iconst 0, 1) := by decide +kernel
theorem dX6_film_28 : decode cX6_film 28 = .ok (.iconst 3, 1) := by decide +kernel
theorem dX6_film_29 : decode cX6_film 29 = .ok (.invokestatic 38, 3) := by decide +kernel
theorem dX6_film_32 : decode cX6_film 32 = .ok (.ifCond .ne 5, 3) := by decide +kernel
theorem dX6_film_35 : decode cX6_film 35 = .ok (.iconst (-1), 1) := by decide +kernel
theorem dX6_film_36 : decode cX6_film 36 = .ok (.ireturn, 1) := by decide +kernel
theorem dX6_film_37 : decode cX6_film 37 = .ok (.aload_n 0, 1) := by decide +kernel
theorem dX6_film_38 : decode cX6_film 38 = .ok (.iload_n 3, 1) := by decide +kernel
theorem dX6_film_39 : decode cX6_film 39 = .ok (.iload 4, 2) := by decide +kernel
theorem dX6_film_41 : decode cX6_film 41 = .ok (.iload 5, 2) := by decide +kernel
theorem dX6_film_43 : decode cX6_film 43 = .ok (.iload_n 2, 1) := by decide +kernel
theorem dX6_film_44 : decode cX6_film 44 = .ok (.invokevirtual 181, 3) := by decide +kernel
theorem dX6_film_47 : decode cX6_film 47 = .ok (.istore 6, 2) := by decide +kernel
theorem dX6_film_49 : decode cX6_film 49 = .ok (.iload 6, 2) := by decide +kernel
theorem dX6_film_51 : decode cX6_film 51 = .ok (.ifCond .eq 6, 3) := by decide +kernel
theorem dX6_film_54 : decode cX6_film 54 = .ok (.iload 6, 2) := by decide +kernel
theorem dX6_film_56 : decode cX6_film 56 = .ok (.ireturn, 1) := by decide +kernel
theorem dX6_film_57 : decode cX6_film 57 = .ok (.aload_n 0, 1) := by decide +kernel
theorem dX6_film_58 : decode cX6_film 58 = .ok (.invokevirtual 142, 3) := by decide +kernel
theorem dX6_film_61 : decode cX6_film 61 = .ok (.iconst 0, 1) := by decide +kernel
theorem dX6_film_62 : decode cX6_film 62 = .ok (.istore 7, 2) := by decide +kernel
theorem dX6_film_64 : decode cX6_film 64 = .ok (.iload 7, 2) := by decide +kernel
theorem dX6_film_66 : decode cX6_film 66 = .ok (.iload_n 2, 1) := by decide +kernel
theorem dX6_film_67 : decode cX6_film 67 = .ok (.if_icmp .ge 45, 3) := by decide +kernel
theorem dX6_film_70 : decode cX6_film 70 = .ok (.aload_n 0, 1) := by decide +kernel
theorem dX6_film_71 : decode cX6_film 71 = .ok (.getfield 26, 3) := by decide +kernel
theorem dX6_film_74 : decode cX6_film 74 = .ok (.invokestatic 131, 3) := by decide +kernel
theorem dX6_film_77 : decode cX6_film 77 = .ok (.aload_n 0, 1) := by decide +kernel
theorem dX6_film_78 : decode cX6_film 78 = .ok (.getfield 16, 3) := by decide +kernel
theorem dX6_film_81 : decode cX6_film 81 = .ok (.bipush 24, 2) := by decide +kernel
theorem dX6_film_83 : decode cX6_film 83 = .ok (.iload_n 3, 1) := by decide +kernel
theorem dX6_film_84 : decode cX6_film 84 = .ok (.imul, 1) := by decide +kernel
theorem dX6_film_85 : decode cX6_film 85 = .ok (.iload 5, 2) := by decide +kernel
theorem dX6_film_87 : decode cX6_film 87 = .ok (.iadd, 1) := by decide +kernel
theorem dX6_film_88 : decode cX6_film 88 = .ok (.iload 7, 2) := by decide +kernel
theorem dX6_film_90 : decode cX6_film 90 = .ok (.iadd, 1) := by decide +kernel
theorem dX6_film_91 : decode cX6_film 91 = .ok (.iload 4, 2) := by decide +kernel
theorem dX6_film_93 : decode cX6_film 93 = .ok (.aload_n 0, 1) := by decide +kernel
theorem dX6_film_94 : decode cX6_film 94 = .ok (.getfield 26, 3) := by decide +kernel
theorem dX6_film_97 : decode cX6_film 97 = .ok (.iconst 2, 1) := by decide +kernel
theorem dX6_film_98 : decode cX6_film 98 = .ok (.iload_n 1, 1) := by decide +kernel
theorem dX6_film_99 : decode cX6_film 99 = .ok (.iadd, 1) := by decide +kernel
theorem dX6_film_100 : decode cX6_film 100 = .ok (.iaload, 1) := by decide +kernel
theorem dX6_film_101 : decode cX6_film 101 = .ok (.i2l, 1) := by decide +kernel
theorem dX6_film_102 : decode cX6_film 102 = .ok (.invokestatic 189, 3) := by decide +kernel
theorem dX6_film_105 : decode cX6_film 105 = .ok (.lastore, 1) := by decide +kernel
theorem dX6_film_106 : decode cX6_film 106 = .ok (.iinc 7 1, 3) := by decide +kernel
theorem dX6_film_109 : decode cX6_film 109 = .ok (.goto (-45), 3) := by decide +kernel
theorem dX6_film_112 : decode cX6_film 112 = .ok (.iload_n 2, 1) := by decide +kernel
theorem dX6_film_113 : decode cX6_film 113 = .ok (.ireturn, 1) := by decide +kernel
set_option maxRecDepth 20000 in
theorem ggX6_sheet_X6_isSheet : GoodIn wsX6_sheet wsX6_isSheet := goodIn_r _ [7, 8, 9, 6, 10] (by decide +kernel) (by decide +kernel)
set_option maxRecDepth 20000 in
theorem gX6_sheet_X6_isSheet : GoodIn wsX6_sheet (va_wsS RX6 178 yX6_isSheet wsX6_isSheet) := goodIn_app (goodIn_of _ (by decide +kernel)) ggX6_sheet_X6_isSheet
set_option maxRecDepth 20000 in
theorem ggX6_sheet_X6_in : GoodIn wsX6_sheet wsX6_in := goodIn_r _ [10] (by decide +kernel) (by decide +kernel)
set_option maxRecDepth 20000 in
theorem gX6_sheet_X6_in : GoodIn wsX6_sheet (va_wsS RX6 38 yX6_in wsX6_in) := goodIn_app (goodIn_of _ (by decide +kernel)) ggX6_sheet_X6_in
theorem dX6_sheet_0 : decode cX6_sheet 0 = .ok (.iload_n 1, 1) := by decide +kernel
theorem dX6_sheet_1 : decode cX6_sheet 1 = .ok (.invokestatic 178, 3) := by decide +kernel
theorem dX6_sheet_4 : decode cX6_sheet 4 = .ok (.ifCond .eq 18, 3) := by decide +kernel
theorem dX6_sheet_7 : decode cX6_sheet 7 = .ok (.iload_n 2, 1) := by decide +kernel
theorem dX6_sheet_8 : decode cX6_sheet 8 = .ok (.iconst 0, 1) := by decide +kernel
theorem dX6_sheet_9 : decode cX6_sheet 9 = .ok (.iconst 3, 1) := by decide +kernel
theorem dX6_sheet_10 : decode cX6_sheet 10 = .ok (.invokestatic 38, 3) := by decide +kernel
theorem dX6_sheet_13 : decode cX6_sheet 13 = .ok (.ifCond .eq 9, 3) := by decide +kernel
theorem dX6_sheet_16 : decode cX6_sheet 16 = .ok (.iload_n 3, 1) := by decide +kernel
theorem dX6_sheet_17 : decode cX6_sheet 17 = .ok (.bipush 24, 2) := by decide +kernel
theorem dX6_sheet_19 : decode cX6_sheet 19 = .ok (.if_icmp .le 5, 3) := by decide +kernel
theorem dX6_sheet_22 : decode cX6_sheet 22 = .ok (.iconst (-1), 1) := by decide +kernel
theorem dX6_sheet_23 : decode cX6_sheet 23 = .ok (.ireturn, 1) := by decide +kernel
theorem dX6_sheet_24 : decode cX6_sheet 24 = .ok (.iload_n 3, 1) := by decide +kernel
theorem dX6_sheet_25 : decode cX6_sheet 25 = .ok (.ifCond .ge 6, 3) := by decide +kernel
theorem dX6_sheet_28 : decode cX6_sheet 28 = .ok (.bipush (-14), 2) := by decide +kernel
theorem dX6_sheet_30 : decode cX6_sheet 30 = .ok (.ireturn, 1) := by decide +kernel
theorem dX6_sheet_31 : decode cX6_sheet 31 = .ok (.aload_n 0, 1) := by decide +kernel
theorem dX6_sheet_32 : decode cX6_sheet 32 = .ok (.getfield 7, 3) := by decide +kernel
theorem dX6_sheet_35 : decode cX6_sheet 35 = .ok (.iload_n 1, 1) := by decide +kernel
theorem dX6_sheet_36 : decode cX6_sheet 36 = .ok (.iload_n 2, 1) := by decide +kernel
theorem dX6_sheet_37 : decode cX6_sheet 37 = .ok (.iastore, 1) := by decide +kernel
theorem dX6_sheet_38 : decode cX6_sheet 38 = .ok (.aload_n 0, 1) := by decide +kernel
theorem dX6_sheet_39 : decode cX6_sheet 39 = .ok (.getfield 13, 3) := by decide +kernel
theorem dX6_sheet_42 : decode cX6_sheet 42 = .ok (.iload_n 1, 1) := by decide +kernel
theorem dX6_sheet_43 : decode cX6_sheet 43 = .ok (.iload_n 3, 1) := by decide +kernel
theorem dX6_sheet_44 : decode cX6_sheet 44 = .ok (.iastore, 1) := by decide +kernel
theorem dX6_sheet_45 : decode cX6_sheet 45 = .ok (.iconst 0, 1) := by decide +kernel
theorem dX6_sheet_46 : decode cX6_sheet 46 = .ok (.istore 4, 2) := by decide +kernel
theorem dX6_sheet_48 : decode cX6_sheet 48 = .ok (.iload 4, 2) := by decide +kernel
theorem dX6_sheet_50 : decode cX6_sheet 50 = .ok (.bipush 24, 2) := by decide +kernel
theorem dX6_sheet_52 : decode cX6_sheet 52 = .ok (.if_icmp .ge 22, 3) := by decide +kernel
theorem dX6_sheet_55 : decode cX6_sheet 55 = .ok (.aload_n 0, 1) := by decide +kernel
theorem dX6_sheet_56 : decode cX6_sheet 56 = .ok (.getfield 16, 3) := by decide +kernel
theorem dX6_sheet_59 : decode cX6_sheet 59 = .ok (.bipush 24, 2) := by decide +kernel
theorem dX6_sheet_61 : decode cX6_sheet 61 = .ok (.iload_n 1, 1) := by decide +kernel
theorem dX6_sheet_62 : decode cX6_sheet 62 = .ok (.imul, 1) := by decide +kernel
theorem dX6_sheet_63 : decode cX6_sheet 63 = .ok (.iload 4, 2) := by decide +kernel
theorem dX6_sheet_65 : decode cX6_sheet 65 = .ok (.iadd, 1) := by decide +kernel
theorem dX6_sheet_66 : decode cX6_sheet 66 = .ok (.lconst 0, 1) := by decide +kernel
theorem dX6_sheet_67 : decode cX6_sheet 67 = .ok (.lastore, 1) := by decide +kernel
theorem dX6_sheet_68 : decode cX6_sheet 68 = .ok (.iinc 4 1, 3) := by decide +kernel
theorem dX6_sheet_71 : decode cX6_sheet 71 = .ok (.goto (-23), 3) := by decide +kernel
theorem dX6_sheet_74 : decode cX6_sheet 74 = .ok (.iload_n 3, 1) := by decide +kernel
theorem dX6_sheet_75 : decode cX6_sheet 75 = .ok (.ireturn, 1) := by decide +kernel
set_option maxRecDepth 20000 in
theorem ggX6_item_X6_isSheet : GoodIn wsX6_item wsX6_isSheet := goodIn_r _ [5, 6, 7, 4, 8] (by decide +kernel) (by decide +kernel)
set_option maxRecDepth 20000 in
theorem gX6_item_X6_isSheet : GoodIn wsX6_item (va_wsS RX6 178 yX6_isSheet wsX6_isSheet) := goodIn_app (goodIn_of _ (by decide +kernel)) ggX6_item_X6_isSheet
set_option maxRecDepth 20000 in
theorem ggX6_item_X6_in : GoodIn wsX6_item wsX6_in := goodIn_r _ [8] (by decide +kernel) (by decide +kernel)
set_option maxRecDepth 20000 in
theorem gX6_item_X6_in : GoodIn wsX6_item (va_wsS RX6 38 yX6_in wsX6_in) := goodIn_app (goodIn_of _ (by decide +kernel)) ggX6_item_X6_in
set_option maxRecDepth 20000 in
theorem ggX6_item_X6_wrong : GoodIn wsX6_item wsX6_wrong := goodIn_r _ [12, 13, 14, 15, 16, 4, 17, 18, 19, 20, 21, 22, 23, 24, 25, 26, 27, 28, 29, 30, 31, 32] (by decide +kernel) (by decide +kernel)
set_option maxRecDepth 20000 in
theorem gX6_item_X6_wrong : GoodIn wsX6_item (wsV RX6 181 RX6 yX6_wrong wsX6_wrong) := goodIn_app (goodIn_of _ (by decide +kernel)) ggX6_item_X6_wrong
theorem dX6_item_0 : decode cX6_item 0 = .ok (.iload_n 1, 1) := by decide +kernel
theorem dX6_item_1 : decode cX6_item 1 = .ok (.invokestatic 178, 3) := by decide +kernel
theorem dX6_item_4 : decode cX6_item 4 = .ok (.ifCond .eq 12, 3) := by decide +kernel
theorem dX6_item_7 : decode cX6_item 7 = .ok (.iload_n 2, 1) := by decide +kernel
theorem dX6_item_8 : decode cX6_item 8 = .ok (.iconst 0, 1) := by decide +kernel
theorem dX6_item_9 : decode cX6_item 9 = .ok (.iconst 3, 1) := by decide +kernel
theorem dX6_item_10 : decode cX6_item 10 = .ok (.invokestatic 38, 3) := by decide +kernel
theorem dX6_item_13 : decode cX6_item 13 = .ok (.ifCond .ne 5, 3) := by decide +kernel
theorem dX6_item_16 : decode cX6_item 16 = .ok (.iconst (-1), 1) := by decide +kernel
theorem dX6_item_17 : decode cX6_item 17 = .ok (.ireturn, 1) := by decide +kernel
theorem dX6_item_18 : decode cX6_item 18 = .ok (.aload_n 0, 1) := by decide +kernel
theorem dX6_item_19 : decode cX6_item 19 = .ok (.iload_n 1, 1) := by decide +kernel
theorem dX6_item_20 : decode cX6_item 20 = .ok (.iload_n 2, 1) := by decide +kernel
theorem dX6_item_21 : decode cX6_item 21 = .ok (.iload_n 3, 1) := by decide +kernel
theorem dX6_item_22 : decode cX6_item 22 = .ok (.iconst 1, 1) := by decide +kernel
theorem dX6_item_23 : decode cX6_item 23 = .ok (.invokevirtual 181, 3) := by decide +kernel
theorem dX6_item_26 : decode cX6_item 26 = .ok (.istore 6, 2) := by decide +kernel
theorem dX6_item_28 : decode cX6_item 28 = .ok (.iload 6, 2) := by decide +kernel
theorem dX6_item_30 : decode cX6_item 30 = .ok (.ifCond .eq 6, 3) := by decide +kernel
theorem dX6_item_33 : decode cX6_item 33 = .ok (.iload 6, 2) := by decide +kernel
theorem dX6_item_35 : decode cX6_item 35 = .ok (.ireturn, 1) := by decide +kernel
theorem dX6_item_36 : decode cX6_item 36 = .ok (.aload_n 0, 1) := by decide +kernel
theorem dX6_item_37 : decode cX6_item 37 = .ok (.getfield 16, 3) := by decide +kernel
theorem dX6_item_40 : decode cX6_item 40 = .ok (.bipush 24, 2) := by decide +kernel
theorem dX6_item_42 : decode cX6_item 42 = .ok (.iload_n 1, 1) := by decide +kernel
theorem dX6_item_43 : decode cX6_item 43 = .ok (.imul, 1) := by decide +kernel
theorem dX6_item_44 : decode cX6_item 44 = .ok (.iload_n 3, 1) := by decide +kernel
theorem dX6_item_45 : decode cX6_item 45 = .ok (.iadd, 1) := by decide +kernel
theorem dX6_item_46 : decode cX6_item 46 = .ok (.iload_n 2, 1) := by decide +kernel
theorem dX6_item_47 : decode cX6_item 47 = .ok (.ifCond .ne 11, 3) := by decide +kernel
theorem dX6_item_50 : decode cX6_item 50 = .ok (.lload 4, 2) := by decide +kernel
theorem dX6_item_52 : decode cX6_item 52 = .ok (.l2i, 1) := by decide +kernel
theorem dX6_item_53 : decode cX6_item 53 = .ok (.i2b, 1) := by decide +kernel
theorem dX6_item_54 : decode cX6_item 54 = .ok (.i2l, 1) := by decide +kernel
theorem dX6_item_55 : decode cX6_item 55 = .ok (.goto 30, 3) := by decide +kernel
theorem dX6_item_58 : decode cX6_item 58 = .ok (.iload_n 2, 1) := by decide +kernel
theorem dX6_item_59 : decode cX6_item 59 = .ok (.iconst 1, 1) := by decide +kernel
theorem dX6_item_60 : decode cX6_item 60 = .ok (.if_icmp .ne 11, 3) := by decide +kernel
theorem dX6_item_63 : decode cX6_item 63 = .ok (.lload 4, 2) := by decide +kernel
theorem dX6_item_65 : decode cX6_item 65 = .ok (.l2i, 1) := by decide +kernel
theorem dX6_item_66 : decode cX6_item 66 = .ok (.i2s, 1) := by decide +kernel
theorem dX6_item_67 : decode cX6_item 67 = .ok (.i2l, 1) := by decide +kernel
theorem dX6_item_68 : decode cX6_item 68 = .ok (.goto 17, 3) := by decide +kernel
theorem dX6_item_71 : decode cX6_item 71 = .ok (.iload_n 2, 1) := by decide +kernel
theorem dX6_item_72 : decode cX6_item 72 = .ok (.iconst 2, 1) := by decide +kernel
theorem dX6_item_73 : decode cX6_item 73 = .ok (.if_icmp .ne 10, 3) := by decide +kernel
theorem dX6_item_76 : decode cX6_item 76 = .ok (.lload 4, 2) := by decide +kernel
theorem dX6_item_78 : decode cX6_item 78 = .ok (.l2i, 1) := by decide +kernel
theorem dX6_item_79 : decode cX6_item 79 = .ok (.i2l, 1) := by decide +kernel
theorem dX6_item_80 : decode cX6_item 80 = .ok (.goto 5, 3) := by decide +kernel
theorem dX6_item_83 : decode cX6_item 83 = .ok (.lload 4, 2) := by decide +kernel
theorem dX6_item_85 : decode cX6_item 85 = .ok (.lastore, 1) := by decide +kernel
theorem dX6_item_86 : decode cX6_item 86 = .ok (.iconst 1, 1) := by decide +kernel
theorem dX6_item_87 : decode cX6_item 87 = .ok (.ireturn, 1) := by decide +kernel
def bX6_ever_8  (K2 : ((Int32 × Int32 × (Nat → Int32))) → Option (Int32 × (Nat → Int32))) : ((Int32 × Int32 × (Nat → Int32))) → Option (Int32 × (Nat → Int32))
  | (v1_2, v2_2, tri_M_2) => if 60 < v2_2 then (some (v1_2, tri_M_2)) else ((fX6_bentOnes tri_M_2).bind (fun r4 => nm (v1_2 ||| r4) (fun x5 => (fX6_dayIn tri_M_2).bind (fun r6 => nm (v2_2 + 1) (fun x7 => K2 (x5, x7, r6))))))
def fX6_ever   (now_M : Nat → Int32) (tri_M : Nat → Int32) : Option (Int32 × (Nat → Int32)) := (fX6_begin now_M tri_M).bind (fun r1 => lp bX6_ever_8 FU (0, 0, r1))
theorem in_X6_ever_X6 : ∀ w ∈ wsX60, w ∈ wsX6_ever := by decide +kernel
set_option maxHeartbeats 4000000 in
set_option maxRecDepth 100000 in
theorem ct_X6_ever {l : Launch} {D : va_G} {g : Nat → ClassId} {qa : Nat → Nat} {E0 : Nat → va_E} {ltr_M : Int32} {pos_M : Int32} {num_M : Int32} {isk_M : Int32} {bm_M : Int32} {bch_M : Int32} {lan_M : Nat → Int32} {siz_M : Nat → Int32} {itm_M : Nat → Int64} {tap_M : Nat → Int32} {now_M : Nat → Int32} {tri_M : Nat → Int32} {rd_M : Nat → Int32} {kp_M : Nat → Int32} {bes_M : Nat → Int32} (hG_M : Mo g qa E0 64 ltr_M pos_M num_M isk_M bm_M bch_M lan_M siz_M itm_M tap_M now_M tri_M rd_M kp_M bes_M) {R : (Int32 × (Nat → Int32))} (hf : fX6_ever now_M tri_M = some R) : MI l yX6_ever wsX6_ever 6 D g qa E0 [.ref (qa 64)] R.1 (fun E => Mo g qa E 64 ltr_M pos_M num_M isk_M bm_M bch_M lan_M siz_M itm_M tap_M now_M R.2 rd_M kp_M bes_M ∧ ∀ j, (j < 64 ∨ 74 ≤ j) → E j = E0 j) := by
  refine MI.mk (by decide) rfl (Nat.le_of_ble_eq_true rfl) ?_
  intro p e s m args below meth c ls Q X hret hP hS hl
  have hl : lv_has ls 3 [(0, .ref (qa 64))] := hl
  have hfr : ∀ j, (j < 64 ∨ 74 ≤ j) → E0 j = E0 j := fun _ _ => rfl
  rw [fX6_ever] at hf
  refine lv_aload_n X.1 X.2.1 dX6_ever_0 rfl (lv_at hl 0 rfl) ?_
  obtain ⟨r1, hr1, hf⟩ := bd_of hf
  refine x_callVv X hP hS hG_M.1 (by omega) rfl (n := 0) (As := []) (ct_X6_begin hG_M hr1) gX6_ever_X6_begin rfl (by decide +kernel) ⟨by decide, by decide⟩ rfl hl.1 rfl (Nat.le_of_ble_eq_true rfl) dX6_ever_1 (fun E H locs hp hP hS => ?_)
  obtain ⟨hW_M, hk⟩ := hp
  have hG_M := hW_M
  have hfr : ∀ j, (j < 64 ∨ 74 ≤ j) → E j = E0 j := fun j o0 => (hk j (by omega)).trans (hfr j o0)
  refine lv_iconst (v := 0) X.1 X.2.1 dX6_ever_4 (by decide) ?_
  refine lv_istore_n (lv' := [(1, .int 0), (0, .ref (qa 64))]) X.1 X.2.1 dX6_ever_5 rfl hl (by decide) rfl (fun ls hl => ?_)
  refine lv_iconst (v := 0) X.1 X.2.1 dX6_ever_6 (by decide) ?_
  refine lv_istore_n (lv' := [(2, .int 0), (1, .int 0), (0, .ref (qa 64))]) X.1 X.2.1 dX6_ever_7 rfl hl (by decide) rfl (fun ls hl => ?_)
  have lp2 : ∀ (n2 : Nat) (v1_2 : Int32) (v2_2 : Int32) (tri_M_2 : Nat → Int32) (E : Nat → va_E) (H : Heap) (locs : List Loc) (ls : Array Slot), lp bX6_ever_8 n2 (v1_2, v2_2, tri_M_2) = some R → va_P D vwCl (WD qa E) H → va_S (gA qa s.heap.size) s.heap H locs → Mo g qa E 64 ltr_M pos_M num_M isk_M bm_M bch_M lan_M siz_M itm_M tap_M now_M tri_M_2 rd_M kp_M bes_M → (∀ j, (j < 64 ∨ 74 ≤ j) → E j = E0 j) → lv_has ls 3 [(0, .ref (qa 64)), (1, .int v1_2), (2, .int v2_2)] → W p l e (rmf 6) s m args below meth c H locs 0 0 Q (F0 m 8 ls []) := by
    intro n2
    induction n2 with
    | zero =>
      intro v1_2 v2_2 tri_M_2 E H locs ls hf
      exact absurd hf (by intro h; cases h)
    | succ n2 ih2 =>
      intro v1_2 v2_2 tri_M_2 E H locs ls hf hP hS hG_M hfr hl
      have hf : bX6_ever_8 (lp bX6_ever_8 n2) (v1_2, v2_2, tri_M_2) = some R := hf
      rw [bX6_ever_8] at hf
      refine lv_iload_n X.1 X.2.1 dX6_ever_8 rfl (lv_at hl 2 rfl) ?_
      refine lv_bipush (v := 60) X.1 X.2.1 dX6_ever_9 (by decide) ?_
      refine lv_icmp_gt (tgt := 37) X.1 X.2.1 dX6_ever_11 (by decide) (fun c3 => ?_) (fun c3 => ?_)
      · have hf := ifp hf c3
        refine lv_iload_n X.1 X.2.1 dX6_ever_37 rfl (lv_at hl 1 rfl) ?_
        obtain rfl := Option.some.inj hf
        exact hret _ _ _ _ _ _ dX6_ever_38 rfl rfl (⟨hG_M, hfr⟩) hP hS
      · have hf := ifn hf c3
        refine lv_iload_n X.1 X.2.1 dX6_ever_14 rfl (lv_at hl 1 rfl) ?_
        refine lv_aload_n X.1 X.2.1 dX6_ever_15 rfl (lv_at hl 0 rfl) ?_
        refine x_get X hP hG_M.1 (by omega) rfl in_X6_ever_X6 8 (by decide) (by decide +kernel) rfl rfl dX6_ever_16 ?_
        obtain ⟨r4, hr4, hf⟩ := bd_of hf
        refine x_rdSi X hP hS (index := 118) (n := 1) (As := [.ref (qa (64 + 6))]) (ct_X6_bentOnes (by omega) hG_M.2.2.2.2.2.2.1 hr4) ggX6_ever_X6_bentOnes (by decide +kernel) (by decide +kernel) (by decide +kernel) rfl (by decide +kernel) ⟨by decide, by decide⟩ rfl hl.1 rfl (Nat.le_of_ble_eq_true rfl) dX6_ever_19 (fun H locs hP hS => ?_)
        refine lv_ior X.1 X.2.1 dX6_ever_22 ?_
        obtain ⟨x5, ex5, hf⟩ := nm_of hf
        refine lv_top_as ex5 ?_
        refine lv_istore_n (lv' := [(1, .int x5), (0, .ref (qa 64)), (2, .int v2_2)]) X.1 X.2.1 dX6_ever_23 rfl hl (by decide) rfl (fun ls hl => ?_)
        refine lv_aload_n X.1 X.2.1 dX6_ever_24 rfl (lv_at hl 1 rfl) ?_
        refine x_get X hP hG_M.1 (by omega) rfl in_X6_ever_X6 8 (by decide) (by decide +kernel) rfl rfl dX6_ever_25 ?_
        obtain ⟨r6, hr6, hf⟩ := bd_of hf
        refine x_callSv X hP hS (index := 131) (n := 1) (As := [.ref (qa (64 + 6))]) (ct_X6_dayIn (by omega) hG_M.2.2.2.2.2.2.1 hr6) ggX6_ever_X6_dayIn (by decide +kernel) (by decide +kernel) (by decide +kernel) rfl (by decide +kernel) ⟨by decide, by decide⟩ rfl hl.1 rfl (Nat.le_of_ble_eq_true rfl) dX6_ever_28 (fun E H locs hp hP hS => ?_)
        obtain ⟨hW_s, hk⟩ := hp
        have hG_M := Mo_set_6 hG_M hW_s hk
        have hfr : ∀ j, (j < 64 ∨ 74 ≤ j) → E j = E0 j := fun j o0 => (hk j (by omega)).trans (hfr j o0)
        obtain ⟨x7, ex7, hf⟩ := nm_of hf
        refine lv_iinc (v := x7) (lv' := [(2, .int x7), (1, .int x5), (0, .ref (qa 64))]) X.1 X.2.1 dX6_ever_31 hl (k := 2) rfl (by rw [ex7]; rfl) (by decide) rfl (fun ls hl => ?_)
        refine lv_goto (tgt := 8) X.1 X.2.1 dX6_ever_34 (by decide) ?_
        exact ih2 x5 x7 r6 _ _ _ _ hf hP hS hG_M hfr (lv_sub hl [2, 1, 0] rfl)
  exact lp2 FU 0 0 r1 _ _ _ _ hf hP hS hG_M hfr (lv_sub hl [2, 1, 0] rfl)
def fX6_wrong (p1 : Int32) (p2 : Int32) (p3 : Int32) (p4 : Int32)  (lan_M : Nat → Int32) (siz_M : Nat → Int32) : Option Int32 := gin p1 4 (if 0 ≤ (lan_M (Int32.toNatClampNeg p1)) then (gin p1 4 (if (lan_M (Int32.toNatClampNeg p1)) = p2 then (gin p1 4 ((fX6_isPart p3 p4 (siz_M (Int32.toNatClampNeg p1))).bind (fun r6 => if r6 = 0 then (some (-13)) else (some 0)))) else (some (-12)))) else (some (-11)))
theorem in_X6_wrong_X6 : ∀ w ∈ wsX60, w ∈ wsX6_wrong := by decide +kernel
set_option maxHeartbeats 4000000 in
set_option maxRecDepth 100000 in
theorem ct_X6_wrong {l : Launch} {D : va_G} {g : Nat → ClassId} {qa : Nat → Nat} {E0 : Nat → va_E} {p1 : Int32} {p2 : Int32} {p3 : Int32} {p4 : Int32} {ltr_M : Int32} {pos_M : Int32} {num_M : Int32} {isk_M : Int32} {bm_M : Int32} {bch_M : Int32} {lan_M : Nat → Int32} {siz_M : Nat → Int32} {itm_M : Nat → Int64} {tap_M : Nat → Int32} {now_M : Nat → Int32} {tri_M : Nat → Int32} {rd_M : Nat → Int32} {kp_M : Nat → Int32} {bes_M : Nat → Int32} (hG_M : Mo g qa E0 64 ltr_M pos_M num_M isk_M bm_M bch_M lan_M siz_M itm_M tap_M now_M tri_M rd_M kp_M bes_M) {R : Int32} (hf : fX6_wrong p1 p2 p3 p4 lan_M siz_M = some R) : MI l yX6_wrong wsX6_wrong 1 D g qa E0 [.ref (qa 64), .int p1, .int p2, .int p3, .int p4] R (fun E => E = E0) := by
  refine MI.mk (by decide) rfl (Nat.le_of_ble_eq_true rfl) ?_
  intro p e s m args below meth c ls Q X hret hP hS hl
  have hl : lv_has ls 5 [(0, .ref (qa 64)), (1, .int p1), (2, .int p2), (3, .int p3), (4, .int p4)] := hl
  rw [fX6_wrong] at hf
  refine lv_aload_n X.1 X.2.1 dX6_wrong_0 rfl (lv_at hl 0 rfl) ?_
  refine x_get X hP hG_M.1 (by omega) rfl in_X6_wrong_X6 0 (by decide) (by decide +kernel) rfl rfl dX6_wrong_1 ?_
  refine lv_iload_n X.1 X.2.1 dX6_wrong_4 rfl (lv_at hl 1 rfl) ?_
  obtain ⟨hi1, hf⟩ := gin_of hf
  refine x_iald X hP hG_M.2.1 (by omega) hi1 dX6_wrong_5 ?_
  refine lv_if_ge (tgt := 14) X.1 X.2.1 dX6_wrong_6 (by decide) (fun c2 => ?_) (fun c2 => ?_)
  · have hf := ifp hf c2
    refine lv_aload_n X.1 X.2.1 dX6_wrong_14 rfl (lv_at hl 0 rfl) ?_
    refine x_get X hP hG_M.1 (by omega) rfl in_X6_wrong_X6 0 (by decide) (by decide +kernel) rfl rfl dX6_wrong_15 ?_
    refine lv_iload_n X.1 X.2.1 dX6_wrong_18 rfl (lv_at hl 1 rfl) ?_
    obtain ⟨hi3, hf⟩ := gin_of hf
    refine x_iald X hP hG_M.2.1 (by omega) hi3 dX6_wrong_19 ?_
    refine lv_iload_n X.1 X.2.1 dX6_wrong_20 rfl (lv_at hl 2 rfl) ?_
    refine lv_icmp_eq (tgt := 29) X.1 X.2.1 dX6_wrong_21 (by decide) (fun c4 => ?_) (fun c4 => ?_)
    · have hf := ifp hf c4
      refine lv_iload_n X.1 X.2.1 dX6_wrong_29 rfl (lv_at hl 3 rfl) ?_
      refine lv_iload X.1 X.2.1 dX6_wrong_30 (lv_at hl 4 rfl) ?_
      refine lv_aload_n X.1 X.2.1 dX6_wrong_32 rfl (lv_at hl 0 rfl) ?_
      refine x_get X hP hG_M.1 (by omega) rfl in_X6_wrong_X6 1 (by decide) (by decide +kernel) rfl rfl dX6_wrong_33 ?_
      refine lv_iload_n X.1 X.2.1 dX6_wrong_36 rfl (lv_at hl 1 rfl) ?_
      obtain ⟨hi5, hf⟩ := gin_of hf
      refine x_iald X hP hG_M.2.2.1 (by omega) hi5 dX6_wrong_37 ?_
      obtain ⟨r6, hr6, hf⟩ := bd_of hf
      refine x_rdSi X hP hS (index := 175) (n := 3) (As := [.int p3, .int p4, .int (siz_M (Int32.toNatClampNeg p1))]) (ct_X6_isPart  hr6) ggX6_wrong_X6_isPart (by decide +kernel) (by decide +kernel) (by decide +kernel) rfl (by decide +kernel) ⟨by decide, by decide⟩ rfl hl.1 rfl (Nat.le_of_ble_eq_true rfl) dX6_wrong_38 (fun H locs hP hS => ?_)
      refine lv_if_eq (tgt := 48) X.1 X.2.1 dX6_wrong_41 (by decide) (fun c7 => ?_) (fun c7 => ?_)
      · have hf := ifp hf c7
        refine lv_bipush (v := (-13)) X.1 X.2.1 dX6_wrong_48 (by decide) ?_
        obtain rfl := Option.some.inj hf
        exact hret _ _ _ _ _ _ dX6_wrong_50 rfl rfl (rfl) hP hS
      · have hf := ifn hf c7
        refine lv_iconst (v := 0) X.1 X.2.1 dX6_wrong_44 (by decide) ?_
        refine lv_goto (tgt := 50) X.1 X.2.1 dX6_wrong_45 (by decide) ?_
        obtain rfl := Option.some.inj hf
        exact hret _ _ _ _ _ _ dX6_wrong_50 rfl rfl (rfl) hP hS
    · have hf := ifn hf c4
      refine lv_bipush (v := (-12)) X.1 X.2.1 dX6_wrong_24 (by decide) ?_
      refine lv_goto (tgt := 50) X.1 X.2.1 dX6_wrong_26 (by decide) ?_
      obtain rfl := Option.some.inj hf
      exact hret _ _ _ _ _ _ dX6_wrong_50 rfl rfl (rfl) hP hS
  · have hf := ifn hf c2
    refine lv_bipush (v := (-11)) X.1 X.2.1 dX6_wrong_9 (by decide) ?_
    refine lv_goto (tgt := 50) X.1 X.2.1 dX6_wrong_11 (by decide) ?_
    obtain rfl := Option.some.inj hf
    exact hret _ _ _ _ _ _ dX6_wrong_50 rfl rfl (rfl) hP hS
def bX6_isFelt_6 (itm_M : Nat → Int64) (p1 : Int32) (p2 : Int32) (p3 : Int32) (p4 : Int32) (K1 : ((Int32 × Int32 × (Nat → Int32))) → Option (Int32 × (Nat → Int32))) : ((Int32 × Int32 × (Nat → Int32))) → Option (Int32 × (Nat → Int32))
  | (v5_1, v6_1, tri_M_1) => if p4 ≤ v6_1 then (gbz v5_1 (some (v5_1, tri_M_1))) else (if v5_1 = 0 then (gbz v5_1 (some (v5_1, tri_M_1))) else ((fX6_dayIn tri_M_1).bind (fun r6 => gin (2 + p1) 191 (gin (((24 * p2) + p3) + v6_1) 96 (if (lg_cmp (Int32.toInt64 (r6 (Int32.toNatClampNeg (2 + p1)))) (itm_M (Int32.toNatClampNeg (((24 * p2) + p3) + v6_1)))) = 0 then (nm (v6_1 + 1) (fun x11 => K1 (1, x11, r6))) else (nm (v6_1 + 1) (fun x10 => K1 (0, x10, r6))))))))
def fX6_isFelt (p1 : Int32) (p2 : Int32) (p3 : Int32) (p4 : Int32)  (itm_M : Nat → Int64) (tri_M : Nat → Int32) : Option (Int32 × (Nat → Int32)) := lp (bX6_isFelt_6 itm_M p1 p2 p3 p4) FU (1, 0, tri_M)
theorem in_X6_isFelt_X6 : ∀ w ∈ wsX60, w ∈ wsX6_isFelt := by decide +kernel
set_option maxHeartbeats 4000000 in
set_option maxRecDepth 100000 in
theorem ct_X6_isFelt {l : Launch} {D : va_G} {g : Nat → ClassId} {qa : Nat → Nat} {E0 : Nat → va_E} {p1 : Int32} {p2 : Int32} {p3 : Int32} {p4 : Int32} {ltr_M : Int32} {pos_M : Int32} {num_M : Int32} {isk_M : Int32} {bm_M : Int32} {bch_M : Int32} {lan_M : Nat → Int32} {siz_M : Nat → Int32} {itm_M : Nat → Int64} {tap_M : Nat → Int32} {now_M : Nat → Int32} {tri_M : Nat → Int32} {rd_M : Nat → Int32} {kp_M : Nat → Int32} {bes_M : Nat → Int32} (hG_M : Mo g qa E0 64 ltr_M pos_M num_M isk_M bm_M bch_M lan_M siz_M itm_M tap_M now_M tri_M rd_M kp_M bes_M) {R : (Int32 × (Nat → Int32))} (hf : fX6_isFelt p1 p2 p3 p4 itm_M tri_M = some R) : MI l yX6_isFelt wsX6_isFelt 6 D g qa E0 [.ref (qa 64), .int p1, .int p2, .int p3, .int p4] R.1 (fun E => Mo g qa E 64 ltr_M pos_M num_M isk_M bm_M bch_M lan_M siz_M itm_M tap_M now_M R.2 rd_M kp_M bes_M ∧ ∀ j, (j < 64 ∨ 74 ≤ j) → E j = E0 j) := by
  refine MI.mk (by decide) rfl (Nat.le_of_ble_eq_true rfl) ?_
  intro p e s m args below meth c ls Q X hret hP hS hl
  have hl : lv_has ls 7 [(0, .ref (qa 64)), (1, .int p1), (2, .int p2), (3, .int p3), (4, .int p4)] := hl
  have hfr : ∀ j, (j < 64 ∨ 74 ≤ j) → E0 j = E0 j := fun _ _ => rfl
  rw [fX6_isFelt] at hf
  refine lv_iconst (v := 1) X.1 X.2.1 dX6_isFelt_0 (by decide) ?_
  refine lv_istore (lv' := [(5, .int 1), (0, .ref (qa 64)), (1, .int p1), (2, .int p2), (3, .int p3), (4, .int p4)]) X.1 X.2.1 dX6_isFelt_1 hl (by decide) rfl (fun ls hl => ?_)
  refine lv_iconst (v := 0) X.1 X.2.1 dX6_isFelt_3 (by decide) ?_
  refine lv_istore (lv' := [(6, .int 0), (5, .int 1), (0, .ref (qa 64)), (1, .int p1), (2, .int p2), (3, .int p3), (4, .int p4)]) X.1 X.2.1 dX6_isFelt_4 hl (by decide) rfl (fun ls hl => ?_)
  have lp1 : ∀ (n1 : Nat) (v5_1 : Int32) (v6_1 : Int32) (tri_M_1 : Nat → Int32) (E : Nat → va_E) (H : Heap) (locs : List Loc) (ls : Array Slot), lp (bX6_isFelt_6 itm_M p1 p2 p3 p4) n1 (v5_1, v6_1, tri_M_1) = some R → va_P D vwCl (WD qa E) H → va_S (gA qa s.heap.size) s.heap H locs → Mo g qa E 64 ltr_M pos_M num_M isk_M bm_M bch_M lan_M siz_M itm_M tap_M now_M tri_M_1 rd_M kp_M bes_M → (∀ j, (j < 64 ∨ 74 ≤ j) → E j = E0 j) → lv_has ls 7 [(0, .ref (qa 64)), (1, .int p1), (2, .int p2), (3, .int p3), (4, .int p4), (5, .int v5_1), (6, .int v6_1)] → W p l e (rmf 6) s m args below meth c H locs 0 0 Q (F0 m 6 ls []) := by
    intro n1
    induction n1 with
    | zero =>
      intro v5_1 v6_1 tri_M_1 E H locs ls hf
      exact absurd hf (by intro h; cases h)
    | succ n1 ih1 =>
      intro v5_1 v6_1 tri_M_1 E H locs ls hf hP hS hG_M hfr hl
      have hf : bX6_isFelt_6 itm_M p1 p2 p3 p4 (lp (bX6_isFelt_6 itm_M p1 p2 p3 p4) n1) (v5_1, v6_1, tri_M_1) = some R := hf
      rw [bX6_isFelt_6] at hf
      refine lv_iload X.1 X.2.1 dX6_isFelt_6 (lv_at hl 6 rfl) ?_
      refine lv_iload X.1 X.2.1 dX6_isFelt_8 (lv_at hl 4 rfl) ?_
      refine lv_icmp_ge (tgt := 65) X.1 X.2.1 dX6_isFelt_10 (by decide) (fun c2 => ?_) (fun c2 => ?_)
      · have hf := ifp hf c2
        refine lv_iload X.1 X.2.1 dX6_isFelt_65 (lv_at hl 5 rfl) ?_
        obtain ⟨hb3, hf⟩ := gbz_of hf
        obtain rfl := Option.some.inj hf
        exact hret _ _ _ _ _ _ dX6_isFelt_67 (gbz_n hb3) rfl (⟨hG_M, hfr⟩) hP hS
      · have hf := ifn hf c2
        refine lv_iload X.1 X.2.1 dX6_isFelt_13 (lv_at hl 5 rfl) ?_
        refine lv_if_eq (tgt := 65) X.1 X.2.1 dX6_isFelt_15 (by decide) (fun c4 => ?_) (fun c4 => ?_)
        · have hf := ifp hf c4
          refine lv_iload X.1 X.2.1 dX6_isFelt_65 (lv_at hl 5 rfl) ?_
          obtain ⟨hb5, hf⟩ := gbz_of hf
          obtain rfl := Option.some.inj hf
          exact hret _ _ _ _ _ _ dX6_isFelt_67 (gbz_n hb5) rfl (⟨hG_M, hfr⟩) hP hS
        · have hf := ifn hf c4
          refine lv_aload_n X.1 X.2.1 dX6_isFelt_18 rfl (lv_at hl 0 rfl) ?_
          refine x_get X hP hG_M.1 (by omega) rfl in_X6_isFelt_X6 8 (by decide) (by decide +kernel) rfl rfl dX6_isFelt_19 ?_
          obtain ⟨r6, hr6, hf⟩ := bd_of hf
          refine x_callSv X hP hS (index := 131) (n := 1) (As := [.ref (qa (64 + 6))]) (ct_X6_dayIn (by omega) hG_M.2.2.2.2.2.2.1 hr6) ggX6_isFelt_X6_dayIn (by decide +kernel) (by decide +kernel) (by decide +kernel) rfl (by decide +kernel) ⟨by decide, by decide⟩ rfl hl.1 rfl (Nat.le_of_ble_eq_true rfl) dX6_isFelt_22 (fun E H locs hp hP hS => ?_)
          obtain ⟨hW_s, hk⟩ := hp
          have hG_M := Mo_set_6 hG_M hW_s hk
          have hfr : ∀ j, (j < 64 ∨ 74 ≤ j) → E j = E0 j := fun j o0 => (hk j (by omega)).trans (hfr j o0)
          refine lv_aload_n X.1 X.2.1 dX6_isFelt_25 rfl (lv_at hl 0 rfl) ?_
          refine x_get X hP hG_M.1 (by omega) rfl in_X6_isFelt_X6 8 (by decide) (by decide +kernel) rfl rfl dX6_isFelt_26 ?_
          refine lv_iconst (v := 2) X.1 X.2.1 dX6_isFelt_29 (by decide) ?_
          refine lv_iload_n X.1 X.2.1 dX6_isFelt_30 rfl (lv_at hl 1 rfl) ?_
          refine lv_iadd X.1 X.2.1 dX6_isFelt_31 ?_
          obtain ⟨hi7, hf⟩ := gin_of hf
          refine x_iald X hP hG_M.2.2.2.2.2.2.1 (by omega) hi7 dX6_isFelt_32 ?_
          refine lv_i2l X.1 X.2.1 dX6_isFelt_33 rfl ?_
          refine lv_aload_n X.1 X.2.1 dX6_isFelt_34 rfl (lv_at hl 0 rfl) ?_
          refine x_get X hP hG_M.1 (by omega) rfl in_X6_isFelt_X6 2 (by decide) (by decide +kernel) rfl rfl dX6_isFelt_35 ?_
          refine lv_bipush (v := 24) X.1 X.2.1 dX6_isFelt_38 (by decide) ?_
          refine lv_iload_n X.1 X.2.1 dX6_isFelt_40 rfl (lv_at hl 2 rfl) ?_
          refine lv_imul X.1 X.2.1 dX6_isFelt_41 ?_
          refine lv_iload_n X.1 X.2.1 dX6_isFelt_42 rfl (lv_at hl 3 rfl) ?_
          refine lv_iadd X.1 X.2.1 dX6_isFelt_43 ?_
          refine lv_iload X.1 X.2.1 dX6_isFelt_44 (lv_at hl 6 rfl) ?_
          refine lv_iadd X.1 X.2.1 dX6_isFelt_46 ?_
          obtain ⟨hi8, hf⟩ := gin_of hf
          refine x_lald X hP hG_M.2.2.2.1 (by omega) hi8 dX6_isFelt_47 ?_
          refine W.lcmp X.1 X.2.1 dX6_isFelt_48 ?_
          refine lv_if_ne (tgt := 56) X.1 X.2.1 dX6_isFelt_49 (by decide) (fun c9 => ?_) (fun c9 => ?_)
          · have hf := ifn hf c9
            refine lv_iconst (v := 0) X.1 X.2.1 dX6_isFelt_56 (by decide) ?_
            refine lv_istore (lv' := [(5, .int 0), (0, .ref (qa 64)), (1, .int p1), (2, .int p2), (3, .int p3), (4, .int p4), (6, .int v6_1)]) X.1 X.2.1 dX6_isFelt_57 hl (by decide) rfl (fun ls hl => ?_)
            obtain ⟨x10, ex10, hf⟩ := nm_of hf
            refine lv_iinc (v := x10) (lv' := [(6, .int x10), (5, .int 0), (0, .ref (qa 64)), (1, .int p1), (2, .int p2), (3, .int p3), (4, .int p4)]) X.1 X.2.1 dX6_isFelt_59 hl (k := 6) rfl (by rw [ex10]; rfl) (by decide) rfl (fun ls hl => ?_)
            refine lv_goto (tgt := 6) X.1 X.2.1 dX6_isFelt_62 (by decide) ?_
            exact ih1 0 x10 r6 _ _ _ _ hf hP hS hG_M hfr (lv_sub hl [2, 3, 4, 5, 6, 1, 0] rfl)
          · have hf := ifp hf c9
            refine lv_iconst (v := 1) X.1 X.2.1 dX6_isFelt_52 (by decide) ?_
            refine lv_goto (tgt := 57) X.1 X.2.1 dX6_isFelt_53 (by decide) ?_
            refine lv_istore (lv' := [(5, .int 1), (0, .ref (qa 64)), (1, .int p1), (2, .int p2), (3, .int p3), (4, .int p4), (6, .int v6_1)]) X.1 X.2.1 dX6_isFelt_57 hl (by decide) rfl (fun ls hl => ?_)
            obtain ⟨x11, ex11, hf⟩ := nm_of hf
            refine lv_iinc (v := x11) (lv' := [(6, .int x11), (5, .int 1), (0, .ref (qa 64)), (1, .int p1), (2, .int p2), (3, .int p3), (4, .int p4)]) X.1 X.2.1 dX6_isFelt_59 hl (k := 6) rfl (by rw [ex11]; rfl) (by decide) rfl (fun ls hl => ?_)
            refine lv_goto (tgt := 6) X.1 X.2.1 dX6_isFelt_62 (by decide) ?_
            exact ih1 1 x11 r6 _ _ _ _ hf hP hS hG_M hfr (lv_sub hl [2, 3, 4, 5, 6, 1, 0] rfl)
  exact lp1 FU 1 0 tri_M _ _ _ _ hf hP hS hG_M hfr (lv_sub hl [2, 3, 4, 5, 6, 1, 0] rfl)
def bX6_felt_93 (itm_M : Nat → Int64) (now_M : Nat → Int32) (p1 : Int32) (p2 : Int32) (p3 : Int32) (p5 : Int32) (p6 : Int32) (p7 : Int32) (K16 : ((Int32 × Int32 × (Nat → Int32))) → Option (Int32 × (Nat → Int32))) : ((Int32 × Int32 × (Nat → Int32))) → Option (Int32 × (Nat → Int32))
  | (v9_16, v10_16, tri_M_16) => if p7 = 0 then (if 4 < v10_16 then (some (v9_16, tri_M_16)) else ((fX6_begin now_M tri_M_16).bind (fun r29 => gin (26 + p2) 191 ((fX6_isFelt p1 p3 p5 p6 itm_M (upd r29 (Int32.toNatClampNeg (26 + p2)) v10_16)).bind (fun r31 => if r31.1 = 0 then (nm (v9_16 ||| 0) (fun x33 => nm (v10_16 + 1) (fun x34 => K16 (x33, x34, r31.2)))) else (nm (v9_16 ||| (1 <<< (v10_16 &&& 31))) (fun x35 => nm (v10_16 + 1) (fun x36 => K16 (x35, x36, r31.2))))))))) else (gin 19 191 (if ((now_M (Int32.toNatClampNeg 19)) - 1) < v10_16 then (some (v9_16, tri_M_16)) else ((fX6_begin now_M tri_M_16).bind (fun r20 => gin (32 + p2) 191 ((fX6_isFelt p1 p3 p5 p6 itm_M (upd r20 (Int32.toNatClampNeg (32 + p2)) v10_16)).bind (fun r22 => if r22.1 = 0 then (nm (v9_16 ||| 0) (fun x24 => nm (v10_16 + 1) (fun x25 => K16 (x24, x25, r22.2)))) else (nm (v9_16 ||| (1 <<< (v10_16 &&& 31))) (fun x26 => nm (v10_16 + 1) (fun x27 => K16 (x26, x27, r22.2))))))))))
def bX6_felt_93_1 (itm_M : Nat → Int64) (now_M : Nat → Int32) (p1 : Int32) (p2 : Int32) (p3 : Int32) (p5 : Int32) (p6 : Int32) (p7 : Int32) (K37 : ((Int32 × Int32 × (Nat → Int32))) → Option (Int32 × (Nat → Int32))) : ((Int32 × Int32 × (Nat → Int32))) → Option (Int32 × (Nat → Int32))
  | (v9_37, v10_37, tri_M_37) => if p7 = 0 then (if 4 < v10_37 then (some (v9_37, tri_M_37)) else ((fX6_begin now_M tri_M_37).bind (fun r49 => gin (26 + p2) 191 ((fX6_isFelt p1 p3 p5 p6 itm_M (upd r49 (Int32.toNatClampNeg (26 + p2)) v10_37)).bind (fun r51 => if r51.1 = 0 then (nm (v9_37 ||| 0) (fun x53 => nm (v10_37 + 1) (fun x54 => K37 (x53, x54, r51.2)))) else (nm (v9_37 ||| (1 <<< (v10_37 &&& 31))) (fun x55 => nm (v10_37 + 1) (fun x56 => K37 (x55, x56, r51.2))))))))) else (if 20 < v10_37 then (some (v9_37, tri_M_37)) else ((fX6_begin now_M tri_M_37).bind (fun r40 => gin (7 + p2) 191 ((fX6_isFelt p1 p3 p5 p6 itm_M (upd r40 (Int32.toNatClampNeg (7 + p2)) v10_37)).bind (fun r42 => if r42.1 = 0 then (nm (v9_37 ||| 0) (fun x44 => nm (v10_37 + 1) (fun x45 => K37 (x44, x45, r42.2)))) else (nm (v9_37 ||| (1 <<< (v10_37 &&& 31))) (fun x46 => nm (v10_37 + 1) (fun x47 => K37 (x46, x47, r42.2)))))))))
def fX6_felt (p1 : Int32) (p2 : Int32) (p3 : Int32) (p4 : Int32) (p5 : Int32) (p6 : Int32) (p7 : Int32)  (lan_M : Nat → Int32) (siz_M : Nat → Int32) (itm_M : Nat → Int64) (now_M : Nat → Int32) (tri_M : Nat → Int32) : Option (Int32 × (Nat → Int32)) := (fX6_isMan p1 now_M).bind (fun r1 => if r1 = 0 then (some ((-1), tri_M)) else ((fX6_isMedal p2 now_M).bind (fun r3 => if r3 = 0 then (some ((-1), tri_M)) else ((fX6_isSheet p3).bind (fun r5 => if r5 = 0 then (some ((-1), tri_M)) else ((fX6_in p4 0 3).bind (fun r7 => if r7 = 0 then (some ((-1), tri_M)) else ((fX6_in p6 1 8).bind (fun r9 => if r9 = 0 then (some ((-1), tri_M)) else ((fX6_in p7 0 2).bind (fun r11 => if r11 = 0 then (some ((-1), tri_M)) else ((fX6_wrong p3 p4 p5 p6 lan_M siz_M).bind (fun r13 => if r13 = 0 then (if p7 = 1 then (lp (bX6_felt_93_1 itm_M now_M p1 p2 p3 p5 p6 p7) FU (0, 1, tri_M)) else (lp (bX6_felt_93 itm_M now_M p1 p2 p3 p5 p6 p7) FU (0, 0, tri_M))) else (some (r13, tri_M)))))))))))))))
theorem in_X6_felt_X6 : ∀ w ∈ wsX60, w ∈ wsX6_felt := by decide +kernel
set_option maxHeartbeats 4000000 in
set_option maxRecDepth 100000 in
theorem ct_X6_felt {l : Launch} {D : va_G} {g : Nat → ClassId} {qa : Nat → Nat} {E0 : Nat → va_E} {p1 : Int32} {p2 : Int32} {p3 : Int32} {p4 : Int32} {p5 : Int32} {p6 : Int32} {p7 : Int32} {ltr_M : Int32} {pos_M : Int32} {num_M : Int32} {isk_M : Int32} {bm_M : Int32} {bch_M : Int32} {lan_M : Nat → Int32} {siz_M : Nat → Int32} {itm_M : Nat → Int64} {tap_M : Nat → Int32} {now_M : Nat → Int32} {tri_M : Nat → Int32} {rd_M : Nat → Int32} {kp_M : Nat → Int32} {bes_M : Nat → Int32} (hG_M : Mo g qa E0 64 ltr_M pos_M num_M isk_M bm_M bch_M lan_M siz_M itm_M tap_M now_M tri_M rd_M kp_M bes_M) {R : (Int32 × (Nat → Int32))} (hf : fX6_felt p1 p2 p3 p4 p5 p6 p7 lan_M siz_M itm_M now_M tri_M = some R) : MI l yX6_felt wsX6_felt 7 D g qa E0 [.ref (qa 64), .int p1, .int p2, .int p3, .int p4, .int p5, .int p6, .int p7] R.1 (fun E => Mo g qa E 64 ltr_M pos_M num_M isk_M bm_M bch_M lan_M siz_M itm_M tap_M now_M R.2 rd_M kp_M bes_M ∧ ∀ j, (j < 64 ∨ 74 ≤ j) → E j = E0 j) := by
  refine MI.mk (by decide) rfl (Nat.le_of_ble_eq_true rfl) ?_
  intro p e s m args below meth c ls Q X hret hP hS hl
  have hl : lv_has ls 11 [(0, .ref (qa 64)), (1, .int p1), (2, .int p2), (3, .int p3), (4, .int p4), (5, .int p5), (6, .int p6), (7, .int p7)] := hl
  have hfr : ∀ j, (j < 64 ∨ 74 ≤ j) → E0 j = E0 j := fun _ _ => rfl
  rw [fX6_felt] at hf
  refine lv_aload_n X.1 X.2.1 dX6_felt_0 rfl (lv_at hl 0 rfl) ?_
  refine lv_iload_n X.1 X.2.1 dX6_felt_1 rfl (lv_at hl 1 rfl) ?_
  obtain ⟨r1, hr1, hf⟩ := bd_of hf
  refine x_rdVi X hP hS hG_M.1 (by omega) rfl (n := 1) (As := [.int p1]) (ct_X6_isMan hG_M hr1) gX6_felt_X6_isMan rfl (by decide +kernel) ⟨by decide, by decide⟩ rfl hl.1 rfl (Nat.le_of_ble_eq_true rfl) dX6_felt_2 (fun H locs hP hS => ?_)
  refine lv_if_eq (tgt := 54) X.1 X.2.1 dX6_felt_5 (by decide) (fun c2 => ?_) (fun c2 => ?_)
  · have hf := ifp hf c2
    refine lv_iconst (v := (-1)) X.1 X.2.1 dX6_felt_54 (by decide) ?_
    obtain rfl := Option.some.inj hf
    exact hret _ _ _ _ _ _ dX6_felt_55 rfl rfl (⟨hG_M, hfr⟩) hP hS
  · have hf := ifn hf c2
    refine lv_aload_n X.1 X.2.1 dX6_felt_8 rfl (lv_at hl 0 rfl) ?_
    refine lv_iload_n X.1 X.2.1 dX6_felt_9 rfl (lv_at hl 2 rfl) ?_
    obtain ⟨r3, hr3, hf⟩ := bd_of hf
    refine x_rdVi X hP hS hG_M.1 (by omega) rfl (n := 1) (As := [.int p2]) (ct_X6_isMedal hG_M hr3) gX6_felt_X6_isMedal rfl (by decide +kernel) ⟨by decide, by decide⟩ rfl hl.1 rfl (Nat.le_of_ble_eq_true rfl) dX6_felt_10 (fun H locs hP hS => ?_)
    refine lv_if_eq (tgt := 54) X.1 X.2.1 dX6_felt_13 (by decide) (fun c4 => ?_) (fun c4 => ?_)
    · have hf := ifp hf c4
      refine lv_iconst (v := (-1)) X.1 X.2.1 dX6_felt_54 (by decide) ?_
      obtain rfl := Option.some.inj hf
      exact hret _ _ _ _ _ _ dX6_felt_55 rfl rfl (⟨hG_M, hfr⟩) hP hS
    · have hf := ifn hf c4
      refine lv_iload_n X.1 X.2.1 dX6_felt_16 rfl (lv_at hl 3 rfl) ?_
      obtain ⟨r5, hr5, hf⟩ := bd_of hf
      refine x_rdSi X hP hS (index := 178) (n := 1) (As := [.int p3]) (ct_X6_isSheet  hr5) ggX6_felt_X6_isSheet (by decide +kernel) (by decide +kernel) (by decide +kernel) rfl (by decide +kernel) ⟨by decide, by decide⟩ rfl hl.1 rfl (Nat.le_of_ble_eq_true rfl) dX6_felt_17 (fun H locs hP hS => ?_)
      refine lv_if_eq (tgt := 54) X.1 X.2.1 dX6_felt_20 (by decide) (fun c6 => ?_) (fun c6 => ?_)
      · have hf := ifp hf c6
        refine lv_iconst (v := (-1)) X.1 X.2.1 dX6_felt_54 (by decide) ?_
        obtain rfl := Option.some.inj hf
        exact hret _ _ _ _ _ _ dX6_felt_55 rfl rfl (⟨hG_M, hfr⟩) hP hS
      · have hf := ifn hf c6
        refine lv_iload X.1 X.2.1 dX6_felt_23 (lv_at hl 4 rfl) ?_
        refine lv_iconst (v := 0) X.1 X.2.1 dX6_felt_25 (by decide) ?_
        refine lv_iconst (v := 3) X.1 X.2.1 dX6_felt_26 (by decide) ?_
        obtain ⟨r7, hr7, hf⟩ := bd_of hf
        refine x_rdSi X hP hS (index := 38) (n := 3) (As := [.int p4, .int 0, .int 3]) (ct_X6_in  hr7) ggX6_felt_X6_in (by decide +kernel) (by decide +kernel) (by decide +kernel) rfl (by decide +kernel) ⟨by decide, by decide⟩ rfl hl.1 rfl (Nat.le_of_ble_eq_true rfl) dX6_felt_27 (fun H locs hP hS => ?_)
        refine lv_if_eq (tgt := 54) X.1 X.2.1 dX6_felt_30 (by decide) (fun c8 => ?_) (fun c8 => ?_)
        · have hf := ifp hf c8
          refine lv_iconst (v := (-1)) X.1 X.2.1 dX6_felt_54 (by decide) ?_
          obtain rfl := Option.some.inj hf
          exact hret _ _ _ _ _ _ dX6_felt_55 rfl rfl (⟨hG_M, hfr⟩) hP hS
        · have hf := ifn hf c8
          refine lv_iload X.1 X.2.1 dX6_felt_33 (lv_at hl 6 rfl) ?_
          refine lv_iconst (v := 1) X.1 X.2.1 dX6_felt_35 (by decide) ?_
          refine lv_bipush (v := 8) X.1 X.2.1 dX6_felt_36 (by decide) ?_
          obtain ⟨r9, hr9, hf⟩ := bd_of hf
          refine x_rdSi X hP hS (index := 38) (n := 3) (As := [.int p6, .int 1, .int 8]) (ct_X6_in  hr9) ggX6_felt_X6_in (by decide +kernel) (by decide +kernel) (by decide +kernel) rfl (by decide +kernel) ⟨by decide, by decide⟩ rfl hl.1 rfl (Nat.le_of_ble_eq_true rfl) dX6_felt_38 (fun H locs hP hS => ?_)
          refine lv_if_eq (tgt := 54) X.1 X.2.1 dX6_felt_41 (by decide) (fun c10 => ?_) (fun c10 => ?_)
          · have hf := ifp hf c10
            refine lv_iconst (v := (-1)) X.1 X.2.1 dX6_felt_54 (by decide) ?_
            obtain rfl := Option.some.inj hf
            exact hret _ _ _ _ _ _ dX6_felt_55 rfl rfl (⟨hG_M, hfr⟩) hP hS
          · have hf := ifn hf c10
            refine lv_iload X.1 X.2.1 dX6_felt_44 (lv_at hl 7 rfl) ?_
            refine lv_iconst (v := 0) X.1 X.2.1 dX6_felt_46 (by decide) ?_
            refine lv_iconst (v := 2) X.1 X.2.1 dX6_felt_47 (by decide) ?_
            obtain ⟨r11, hr11, hf⟩ := bd_of hf
            refine x_rdSi X hP hS (index := 38) (n := 3) (As := [.int p7, .int 0, .int 2]) (ct_X6_in  hr11) ggX6_felt_X6_in (by decide +kernel) (by decide +kernel) (by decide +kernel) rfl (by decide +kernel) ⟨by decide, by decide⟩ rfl hl.1 rfl (Nat.le_of_ble_eq_true rfl) dX6_felt_48 (fun H locs hP hS => ?_)
            refine lv_if_ne (tgt := 56) X.1 X.2.1 dX6_felt_51 (by decide) (fun c12 => ?_) (fun c12 => ?_)
            · have hf := ifn hf c12
              refine lv_aload_n X.1 X.2.1 dX6_felt_56 rfl (lv_at hl 0 rfl) ?_
              refine lv_iload_n X.1 X.2.1 dX6_felt_57 rfl (lv_at hl 3 rfl) ?_
              refine lv_iload X.1 X.2.1 dX6_felt_58 (lv_at hl 4 rfl) ?_
              refine lv_iload X.1 X.2.1 dX6_felt_60 (lv_at hl 5 rfl) ?_
              refine lv_iload X.1 X.2.1 dX6_felt_62 (lv_at hl 6 rfl) ?_
              obtain ⟨r13, hr13, hf⟩ := bd_of hf
              refine x_rdVi X hP hS hG_M.1 (by omega) rfl (n := 4) (As := [.int p3, .int p4, .int p5, .int p6]) (ct_X6_wrong hG_M hr13) gX6_felt_X6_wrong rfl (by decide +kernel) ⟨by decide, by decide⟩ rfl hl.1 rfl (Nat.le_of_ble_eq_true rfl) dX6_felt_64 (fun H locs hP hS => ?_)
              refine lv_istore (lv' := [(8, .int r13), (0, .ref (qa 64)), (1, .int p1), (2, .int p2), (3, .int p3), (4, .int p4), (5, .int p5), (6, .int p6), (7, .int p7)]) X.1 X.2.1 dX6_felt_67 hl (by decide) rfl (fun ls hl => ?_)
              refine lv_iload X.1 X.2.1 dX6_felt_69 (lv_at hl 0 rfl) ?_
              refine lv_if_eq (tgt := 77) X.1 X.2.1 dX6_felt_71 (by decide) (fun c14 => ?_) (fun c14 => ?_)
              · have hf := ifp hf c14
                refine lv_iconst (v := 0) X.1 X.2.1 dX6_felt_77 (by decide) ?_
                refine lv_istore (lv' := [(9, .int 0), (8, .int r13), (0, .ref (qa 64)), (1, .int p1), (2, .int p2), (3, .int p3), (4, .int p4), (5, .int p5), (6, .int p6), (7, .int p7)]) X.1 X.2.1 dX6_felt_78 hl (by decide) rfl (fun ls hl => ?_)
                refine lv_iload X.1 X.2.1 dX6_felt_80 (lv_at hl 9 rfl) ?_
                refine lv_iconst (v := 1) X.1 X.2.1 dX6_felt_82 (by decide) ?_
                refine lv_icmp_ne (tgt := 90) X.1 X.2.1 dX6_felt_83 (by decide) (fun c15 => ?_) (fun c15 => ?_)
                · have hf := ifn hf c15
                  refine lv_iconst (v := 0) X.1 X.2.1 dX6_felt_90 (by decide) ?_
                  refine lv_istore (lv' := [(10, .int 0), (9, .int 0), (8, .int r13), (0, .ref (qa 64)), (1, .int p1), (2, .int p2), (3, .int p3), (4, .int p4), (5, .int p5), (6, .int p6), (7, .int p7)]) X.1 X.2.1 dX6_felt_91 hl (by decide) rfl (fun ls hl => ?_)
                  have lp16 : ∀ (n16 : Nat) (v9_16 : Int32) (v10_16 : Int32) (tri_M_16 : Nat → Int32) (E : Nat → va_E) (H : Heap) (locs : List Loc) (ls : Array Slot), lp (bX6_felt_93 itm_M now_M p1 p2 p3 p5 p6 p7) n16 (v9_16, v10_16, tri_M_16) = some R → va_P D vwCl (WD qa E) H → va_S (gA qa s.heap.size) s.heap H locs → Mo g qa E 64 ltr_M pos_M num_M isk_M bm_M bch_M lan_M siz_M itm_M tap_M now_M tri_M_16 rd_M kp_M bes_M → (∀ j, (j < 64 ∨ 74 ≤ j) → E j = E0 j) → lv_has ls 11 [(0, .ref (qa 64)), (1, .int p1), (2, .int p2), (3, .int p3), (4, .int p4), (5, .int p5), (6, .int p6), (7, .int p7), (8, .int r13), (9, .int v9_16), (10, .int v10_16)] → W p l e (rmf 7) s m args below meth c H locs 0 0 Q (F0 m 93 ls []) := by
                    intro n16
                    induction n16 with
                    | zero =>
                      intro v9_16 v10_16 tri_M_16 E H locs ls hf
                      exact absurd hf (by intro h; cases h)
                    | succ n16 ih16 =>
                      intro v9_16 v10_16 tri_M_16 E H locs ls hf hP hS hG_M hfr hl
                      have hf : bX6_felt_93 itm_M now_M p1 p2 p3 p5 p6 p7 (lp (bX6_felt_93 itm_M now_M p1 p2 p3 p5 p6 p7) n16) (v9_16, v10_16, tri_M_16) = some R := hf
                      rw [bX6_felt_93] at hf
                      refine lv_iload X.1 X.2.1 dX6_felt_93 (lv_at hl 10 rfl) ?_
                      refine lv_iload X.1 X.2.1 dX6_felt_95 (lv_at hl 7 rfl) ?_
                      refine lv_if_ne (tgt := 104) X.1 X.2.1 dX6_felt_97 (by decide) (fun c17 => ?_) (fun c17 => ?_)
                      · have hf := ifn hf c17
                        refine lv_iload X.1 X.2.1 dX6_felt_104 (lv_at hl 7 rfl) ?_
                        refine lv_iconst (v := 1) X.1 X.2.1 dX6_felt_106 (by decide) ?_
                        refine lv_icmp_ne (tgt := 115) X.1 X.2.1 dX6_felt_107 (by decide) (fun _ => ?_) (fun q => absurd q c15)
                        refine lv_aload_n X.1 X.2.1 dX6_felt_115 rfl (lv_at hl 0 rfl) ?_
                        refine x_get X hP hG_M.1 (by omega) rfl in_X6_felt_X6 7 (by decide) (by decide +kernel) rfl rfl dX6_felt_116 ?_
                        refine lv_bipush (v := 19) X.1 X.2.1 dX6_felt_119 (by decide) ?_
                        obtain ⟨hi18, hf⟩ := gin_of hf
                        refine x_iald X hP hG_M.2.2.2.2.2.1 (by omega) hi18 dX6_felt_121 ?_
                        refine lv_iconst (v := 1) X.1 X.2.1 dX6_felt_122 (by decide) ?_
                        refine lv_isub X.1 X.2.1 dX6_felt_123 ?_
                        refine lv_icmp_gt (tgt := 195) X.1 X.2.1 dX6_felt_124 (by decide) (fun c19 => ?_) (fun c19 => ?_)
                        · have hf := ifp hf c19
                          refine lv_iload X.1 X.2.1 dX6_felt_195 (lv_at hl 9 rfl) ?_
                          obtain rfl := Option.some.inj hf
                          exact hret _ _ _ _ _ _ dX6_felt_197 rfl rfl (⟨hG_M, hfr⟩) hP hS
                        · have hf := ifn hf c19
                          refine lv_aload_n X.1 X.2.1 dX6_felt_127 rfl (lv_at hl 0 rfl) ?_
                          obtain ⟨r20, hr20, hf⟩ := bd_of hf
                          refine x_callVv X hP hS hG_M.1 (by omega) rfl (n := 0) (As := []) (ct_X6_begin hG_M hr20) gX6_felt_X6_begin rfl (by decide +kernel) ⟨by decide, by decide⟩ rfl hl.1 rfl (Nat.le_of_ble_eq_true rfl) dX6_felt_128 (fun E H locs hp hP hS => ?_)
                          obtain ⟨hW_M, hk⟩ := hp
                          have hG_M := hW_M
                          have hfr : ∀ j, (j < 64 ∨ 74 ≤ j) → E j = E0 j := fun j o0 => (hk j (by omega)).trans (hfr j o0)
                          refine lv_aload_n X.1 X.2.1 dX6_felt_131 rfl (lv_at hl 0 rfl) ?_
                          refine x_get X hP hG_M.1 (by omega) rfl in_X6_felt_X6 8 (by decide) (by decide +kernel) rfl rfl dX6_felt_132 ?_
                          refine lv_iload X.1 X.2.1 dX6_felt_135 (lv_at hl 7 rfl) ?_
                          refine lv_if_ne (tgt := 145) X.1 X.2.1 dX6_felt_137 (by decide) (fun _ => ?_) (fun q => absurd q c17)
                          refine lv_iload X.1 X.2.1 dX6_felt_145 (lv_at hl 7 rfl) ?_
                          refine lv_iconst (v := 1) X.1 X.2.1 dX6_felt_147 (by decide) ?_
                          refine lv_icmp_ne (tgt := 156) X.1 X.2.1 dX6_felt_148 (by decide) (fun _ => ?_) (fun q => absurd q c15)
                          refine lv_bipush (v := 32) X.1 X.2.1 dX6_felt_156 (by decide) ?_
                          refine lv_iload_n X.1 X.2.1 dX6_felt_158 rfl (lv_at hl 2 rfl) ?_
                          refine lv_iadd X.1 X.2.1 dX6_felt_159 ?_
                          refine lv_iload X.1 X.2.1 dX6_felt_160 (lv_at hl 10 rfl) ?_
                          obtain ⟨hi21, hf⟩ := gin_of hf
                          refine x_iast X hP hS hG_M.2.2.2.2.2.2.1 (by omega) hi21 dX6_felt_162 (fun E H locs h1 hk hP hS => ?_)
                          have hG_M := Mo_set_6 hG_M h1 hk
                          have hfr : ∀ j, (j < 64 ∨ 74 ≤ j) → E j = E0 j := fun j o0 => (hk j (by omega)).trans (hfr j o0)
                          refine lv_iload X.1 X.2.1 dX6_felt_163 (lv_at hl 9 rfl) ?_
                          refine lv_aload_n X.1 X.2.1 dX6_felt_165 rfl (lv_at hl 0 rfl) ?_
                          refine lv_iload_n X.1 X.2.1 dX6_felt_166 rfl (lv_at hl 1 rfl) ?_
                          refine lv_iload_n X.1 X.2.1 dX6_felt_167 rfl (lv_at hl 3 rfl) ?_
                          refine lv_iload X.1 X.2.1 dX6_felt_168 (lv_at hl 5 rfl) ?_
                          refine lv_iload X.1 X.2.1 dX6_felt_170 (lv_at hl 6 rfl) ?_
                          obtain ⟨r22, hr22, hf⟩ := bd_of hf
                          refine x_callVi X hP hS hG_M.1 (by omega) rfl (n := 4) (As := [.int p1, .int p3, .int p5, .int p6]) (ct_X6_isFelt hG_M hr22) gX6_felt_X6_isFelt rfl (by decide +kernel) ⟨by decide, by decide⟩ rfl hl.1 rfl (Nat.le_of_ble_eq_true rfl) dX6_felt_172 (fun E H locs hp hP hS => ?_)
                          obtain ⟨hW_M, hk⟩ := hp
                          have hG_M := hW_M
                          have hfr : ∀ j, (j < 64 ∨ 74 ≤ j) → E j = E0 j := fun j o0 => (hk j (by omega)).trans (hfr j o0)
                          refine lv_if_eq (tgt := 185) X.1 X.2.1 dX6_felt_175 (by decide) (fun c23 => ?_) (fun c23 => ?_)
                          · have hf := ifp hf c23
                            refine lv_iconst (v := 0) X.1 X.2.1 dX6_felt_185 (by decide) ?_
                            refine lv_ior X.1 X.2.1 dX6_felt_186 ?_
                            obtain ⟨x24, ex24, hf⟩ := nm_of hf
                            refine lv_top_as ex24 ?_
                            refine lv_istore (lv' := [(9, .int x24), (0, .ref (qa 64)), (1, .int p1), (2, .int p2), (3, .int p3), (4, .int p4), (5, .int p5), (6, .int p6), (7, .int p7), (8, .int r13), (10, .int v10_16)]) X.1 X.2.1 dX6_felt_187 hl (by decide) rfl (fun ls hl => ?_)
                            obtain ⟨x25, ex25, hf⟩ := nm_of hf
                            refine lv_iinc (v := x25) (lv' := [(10, .int x25), (9, .int x24), (0, .ref (qa 64)), (1, .int p1), (2, .int p2), (3, .int p3), (4, .int p4), (5, .int p5), (6, .int p6), (7, .int p7), (8, .int r13)]) X.1 X.2.1 dX6_felt_189 hl (k := 10) rfl (by rw [ex25]; rfl) (by decide) rfl (fun ls hl => ?_)
                            refine lv_goto (tgt := 93) X.1 X.2.1 dX6_felt_192 (by decide) ?_
                            exact ih16 x24 x25 r22.2 _ _ _ _ hf hP hS hG_M hfr (lv_sub hl [2, 3, 4, 5, 6, 7, 8, 9, 10, 1, 0] rfl)
                          · have hf := ifn hf c23
                            refine lv_iconst (v := 1) X.1 X.2.1 dX6_felt_178 (by decide) ?_
                            refine lv_iload X.1 X.2.1 dX6_felt_179 (lv_at hl 10 rfl) ?_
                            refine lv_ishl X.1 X.2.1 dX6_felt_181 ?_
                            refine lv_goto (tgt := 186) X.1 X.2.1 dX6_felt_182 (by decide) ?_
                            refine lv_ior X.1 X.2.1 dX6_felt_186 ?_
                            obtain ⟨x26, ex26, hf⟩ := nm_of hf
                            refine lv_top_as ex26 ?_
                            refine lv_istore (lv' := [(9, .int x26), (0, .ref (qa 64)), (1, .int p1), (2, .int p2), (3, .int p3), (4, .int p4), (5, .int p5), (6, .int p6), (7, .int p7), (8, .int r13), (10, .int v10_16)]) X.1 X.2.1 dX6_felt_187 hl (by decide) rfl (fun ls hl => ?_)
                            obtain ⟨x27, ex27, hf⟩ := nm_of hf
                            refine lv_iinc (v := x27) (lv' := [(10, .int x27), (9, .int x26), (0, .ref (qa 64)), (1, .int p1), (2, .int p2), (3, .int p3), (4, .int p4), (5, .int p5), (6, .int p6), (7, .int p7), (8, .int r13)]) X.1 X.2.1 dX6_felt_189 hl (k := 10) rfl (by rw [ex27]; rfl) (by decide) rfl (fun ls hl => ?_)
                            refine lv_goto (tgt := 93) X.1 X.2.1 dX6_felt_192 (by decide) ?_
                            exact ih16 x26 x27 r22.2 _ _ _ _ hf hP hS hG_M hfr (lv_sub hl [2, 3, 4, 5, 6, 7, 8, 9, 10, 1, 0] rfl)
                      · have hf := ifp hf c17
                        refine lv_iconst (v := 4) X.1 X.2.1 dX6_felt_100 (by decide) ?_
                        refine lv_goto (tgt := 124) X.1 X.2.1 dX6_felt_101 (by decide) ?_
                        refine lv_icmp_gt (tgt := 195) X.1 X.2.1 dX6_felt_124 (by decide) (fun c28 => ?_) (fun c28 => ?_)
                        · have hf := ifp hf c28
                          refine lv_iload X.1 X.2.1 dX6_felt_195 (lv_at hl 9 rfl) ?_
                          obtain rfl := Option.some.inj hf
                          exact hret _ _ _ _ _ _ dX6_felt_197 rfl rfl (⟨hG_M, hfr⟩) hP hS
                        · have hf := ifn hf c28
                          refine lv_aload_n X.1 X.2.1 dX6_felt_127 rfl (lv_at hl 0 rfl) ?_
                          obtain ⟨r29, hr29, hf⟩ := bd_of hf
                          refine x_callVv X hP hS hG_M.1 (by omega) rfl (n := 0) (As := []) (ct_X6_begin hG_M hr29) gX6_felt_X6_begin rfl (by decide +kernel) ⟨by decide, by decide⟩ rfl hl.1 rfl (Nat.le_of_ble_eq_true rfl) dX6_felt_128 (fun E H locs hp hP hS => ?_)
                          obtain ⟨hW_M, hk⟩ := hp
                          have hG_M := hW_M
                          have hfr : ∀ j, (j < 64 ∨ 74 ≤ j) → E j = E0 j := fun j o0 => (hk j (by omega)).trans (hfr j o0)
                          refine lv_aload_n X.1 X.2.1 dX6_felt_131 rfl (lv_at hl 0 rfl) ?_
                          refine x_get X hP hG_M.1 (by omega) rfl in_X6_felt_X6 8 (by decide) (by decide +kernel) rfl rfl dX6_felt_132 ?_
                          refine lv_iload X.1 X.2.1 dX6_felt_135 (lv_at hl 7 rfl) ?_
                          refine lv_if_ne (tgt := 145) X.1 X.2.1 dX6_felt_137 (by decide) (fun q => absurd c17 q) (fun _ => ?_)
                          refine lv_bipush (v := 26) X.1 X.2.1 dX6_felt_140 (by decide) ?_
                          refine lv_goto (tgt := 158) X.1 X.2.1 dX6_felt_142 (by decide) ?_
                          refine lv_iload_n X.1 X.2.1 dX6_felt_158 rfl (lv_at hl 2 rfl) ?_
                          refine lv_iadd X.1 X.2.1 dX6_felt_159 ?_
                          refine lv_iload X.1 X.2.1 dX6_felt_160 (lv_at hl 10 rfl) ?_
                          obtain ⟨hi30, hf⟩ := gin_of hf
                          refine x_iast X hP hS hG_M.2.2.2.2.2.2.1 (by omega) hi30 dX6_felt_162 (fun E H locs h1 hk hP hS => ?_)
                          have hG_M := Mo_set_6 hG_M h1 hk
                          have hfr : ∀ j, (j < 64 ∨ 74 ≤ j) → E j = E0 j := fun j o0 => (hk j (by omega)).trans (hfr j o0)
                          refine lv_iload X.1 X.2.1 dX6_felt_163 (lv_at hl 9 rfl) ?_
                          refine lv_aload_n X.1 X.2.1 dX6_felt_165 rfl (lv_at hl 0 rfl) ?_
                          refine lv_iload_n X.1 X.2.1 dX6_felt_166 rfl (lv_at hl 1 rfl) ?_
                          refine lv_iload_n X.1 X.2.1 dX6_felt_167 rfl (lv_at hl 3 rfl) ?_
                          refine lv_iload X.1 X.2.1 dX6_felt_168 (lv_at hl 5 rfl) ?_
                          refine lv_iload X.1 X.2.1 dX6_felt_170 (lv_at hl 6 rfl) ?_
                          obtain ⟨r31, hr31, hf⟩ := bd_of hf
                          refine x_callVi X hP hS hG_M.1 (by omega) rfl (n := 4) (As := [.int p1, .int p3, .int p5, .int p6]) (ct_X6_isFelt hG_M hr31) gX6_felt_X6_isFelt rfl (by decide +kernel) ⟨by decide, by decide⟩ rfl hl.1 rfl (Nat.le_of_ble_eq_true rfl) dX6_felt_172 (fun E H locs hp hP hS => ?_)
                          obtain ⟨hW_M, hk⟩ := hp
                          have hG_M := hW_M
                          have hfr : ∀ j, (j < 64 ∨ 74 ≤ j) → E j = E0 j := fun j o0 => (hk j (by omega)).trans (hfr j o0)
                          refine lv_if_eq (tgt := 185) X.1 X.2.1 dX6_felt_175 (by decide) (fun c32 => ?_) (fun c32 => ?_)
                          · have hf := ifp hf c32
                            refine lv_iconst (v := 0) X.1 X.2.1 dX6_felt_185 (by decide) ?_
                            refine lv_ior X.1 X.2.1 dX6_felt_186 ?_
                            obtain ⟨x33, ex33, hf⟩ := nm_of hf
                            refine lv_top_as ex33 ?_
                            refine lv_istore (lv' := [(9, .int x33), (0, .ref (qa 64)), (1, .int p1), (2, .int p2), (3, .int p3), (4, .int p4), (5, .int p5), (6, .int p6), (7, .int p7), (8, .int r13), (10, .int v10_16)]) X.1 X.2.1 dX6_felt_187 hl (by decide) rfl (fun ls hl => ?_)
                            obtain ⟨x34, ex34, hf⟩ := nm_of hf
                            refine lv_iinc (v := x34) (lv' := [(10, .int x34), (9, .int x33), (0, .ref (qa 64)), (1, .int p1), (2, .int p2), (3, .int p3), (4, .int p4), (5, .int p5), (6, .int p6), (7, .int p7), (8, .int r13)]) X.1 X.2.1 dX6_felt_189 hl (k := 10) rfl (by rw [ex34]; rfl) (by decide) rfl (fun ls hl => ?_)
                            refine lv_goto (tgt := 93) X.1 X.2.1 dX6_felt_192 (by decide) ?_
                            exact ih16 x33 x34 r31.2 _ _ _ _ hf hP hS hG_M hfr (lv_sub hl [2, 3, 4, 5, 6, 7, 8, 9, 10, 1, 0] rfl)
                          · have hf := ifn hf c32
                            refine lv_iconst (v := 1) X.1 X.2.1 dX6_felt_178 (by decide) ?_
                            refine lv_iload X.1 X.2.1 dX6_felt_179 (lv_at hl 10 rfl) ?_
                            refine lv_ishl X.1 X.2.1 dX6_felt_181 ?_
                            refine lv_goto (tgt := 186) X.1 X.2.1 dX6_felt_182 (by decide) ?_
                            refine lv_ior X.1 X.2.1 dX6_felt_186 ?_
                            obtain ⟨x35, ex35, hf⟩ := nm_of hf
                            refine lv_top_as ex35 ?_
                            refine lv_istore (lv' := [(9, .int x35), (0, .ref (qa 64)), (1, .int p1), (2, .int p2), (3, .int p3), (4, .int p4), (5, .int p5), (6, .int p6), (7, .int p7), (8, .int r13), (10, .int v10_16)]) X.1 X.2.1 dX6_felt_187 hl (by decide) rfl (fun ls hl => ?_)
                            obtain ⟨x36, ex36, hf⟩ := nm_of hf
                            refine lv_iinc (v := x36) (lv' := [(10, .int x36), (9, .int x35), (0, .ref (qa 64)), (1, .int p1), (2, .int p2), (3, .int p3), (4, .int p4), (5, .int p5), (6, .int p6), (7, .int p7), (8, .int r13)]) X.1 X.2.1 dX6_felt_189 hl (k := 10) rfl (by rw [ex36]; rfl) (by decide) rfl (fun ls hl => ?_)
                            refine lv_goto (tgt := 93) X.1 X.2.1 dX6_felt_192 (by decide) ?_
                            exact ih16 x35 x36 r31.2 _ _ _ _ hf hP hS hG_M hfr (lv_sub hl [2, 3, 4, 5, 6, 7, 8, 9, 10, 1, 0] rfl)
                  exact lp16 FU 0 0 tri_M _ _ _ _ hf hP hS hG_M hfr (lv_sub hl [3, 4, 5, 6, 7, 8, 9, 10, 2, 1, 0] rfl)
                · have hf := ifp hf c15
                  refine lv_iconst (v := 1) X.1 X.2.1 dX6_felt_86 (by decide) ?_
                  refine lv_goto (tgt := 91) X.1 X.2.1 dX6_felt_87 (by decide) ?_
                  refine lv_istore (lv' := [(10, .int 1), (9, .int 0), (8, .int r13), (0, .ref (qa 64)), (1, .int p1), (2, .int p2), (3, .int p3), (4, .int p4), (5, .int p5), (6, .int p6), (7, .int p7)]) X.1 X.2.1 dX6_felt_91 hl (by decide) rfl (fun ls hl => ?_)
                  have lp37 : ∀ (n37 : Nat) (v9_37 : Int32) (v10_37 : Int32) (tri_M_37 : Nat → Int32) (E : Nat → va_E) (H : Heap) (locs : List Loc) (ls : Array Slot), lp (bX6_felt_93_1 itm_M now_M p1 p2 p3 p5 p6 p7) n37 (v9_37, v10_37, tri_M_37) = some R → va_P D vwCl (WD qa E) H → va_S (gA qa s.heap.size) s.heap H locs → Mo g qa E 64 ltr_M pos_M num_M isk_M bm_M bch_M lan_M siz_M itm_M tap_M now_M tri_M_37 rd_M kp_M bes_M → (∀ j, (j < 64 ∨ 74 ≤ j) → E j = E0 j) → lv_has ls 11 [(0, .ref (qa 64)), (1, .int p1), (2, .int p2), (3, .int p3), (4, .int p4), (5, .int p5), (6, .int p6), (7, .int p7), (8, .int r13), (9, .int v9_37), (10, .int v10_37)] → W p l e (rmf 7) s m args below meth c H locs 0 0 Q (F0 m 93 ls []) := by
                    intro n37
                    induction n37 with
                    | zero =>
                      intro v9_37 v10_37 tri_M_37 E H locs ls hf
                      exact absurd hf (by intro h; cases h)
                    | succ n37 ih37 =>
                      intro v9_37 v10_37 tri_M_37 E H locs ls hf hP hS hG_M hfr hl
                      have hf : bX6_felt_93_1 itm_M now_M p1 p2 p3 p5 p6 p7 (lp (bX6_felt_93_1 itm_M now_M p1 p2 p3 p5 p6 p7) n37) (v9_37, v10_37, tri_M_37) = some R := hf
                      rw [bX6_felt_93_1] at hf
                      refine lv_iload X.1 X.2.1 dX6_felt_93 (lv_at hl 10 rfl) ?_
                      refine lv_iload X.1 X.2.1 dX6_felt_95 (lv_at hl 7 rfl) ?_
                      refine lv_if_ne (tgt := 104) X.1 X.2.1 dX6_felt_97 (by decide) (fun c38 => ?_) (fun c38 => ?_)
                      · have hf := ifn hf c38
                        refine lv_iload X.1 X.2.1 dX6_felt_104 (lv_at hl 7 rfl) ?_
                        refine lv_iconst (v := 1) X.1 X.2.1 dX6_felt_106 (by decide) ?_
                        refine lv_icmp_ne (tgt := 115) X.1 X.2.1 dX6_felt_107 (by decide) (fun q => absurd c15 q) (fun _ => ?_)
                        refine lv_bipush (v := 20) X.1 X.2.1 dX6_felt_110 (by decide) ?_
                        refine lv_goto (tgt := 124) X.1 X.2.1 dX6_felt_112 (by decide) ?_
                        refine lv_icmp_gt (tgt := 195) X.1 X.2.1 dX6_felt_124 (by decide) (fun c39 => ?_) (fun c39 => ?_)
                        · have hf := ifp hf c39
                          refine lv_iload X.1 X.2.1 dX6_felt_195 (lv_at hl 9 rfl) ?_
                          obtain rfl := Option.some.inj hf
                          exact hret _ _ _ _ _ _ dX6_felt_197 rfl rfl (⟨hG_M, hfr⟩) hP hS
                        · have hf := ifn hf c39
                          refine lv_aload_n X.1 X.2.1 dX6_felt_127 rfl (lv_at hl 0 rfl) ?_
                          obtain ⟨r40, hr40, hf⟩ := bd_of hf
                          refine x_callVv X hP hS hG_M.1 (by omega) rfl (n := 0) (As := []) (ct_X6_begin hG_M hr40) gX6_felt_X6_begin rfl (by decide +kernel) ⟨by decide, by decide⟩ rfl hl.1 rfl (Nat.le_of_ble_eq_true rfl) dX6_felt_128 (fun E H locs hp hP hS => ?_)
                          obtain ⟨hW_M, hk⟩ := hp
                          have hG_M := hW_M
                          have hfr : ∀ j, (j < 64 ∨ 74 ≤ j) → E j = E0 j := fun j o0 => (hk j (by omega)).trans (hfr j o0)
                          refine lv_aload_n X.1 X.2.1 dX6_felt_131 rfl (lv_at hl 0 rfl) ?_
                          refine x_get X hP hG_M.1 (by omega) rfl in_X6_felt_X6 8 (by decide) (by decide +kernel) rfl rfl dX6_felt_132 ?_
                          refine lv_iload X.1 X.2.1 dX6_felt_135 (lv_at hl 7 rfl) ?_
                          refine lv_if_ne (tgt := 145) X.1 X.2.1 dX6_felt_137 (by decide) (fun _ => ?_) (fun q => absurd q c38)
                          refine lv_iload X.1 X.2.1 dX6_felt_145 (lv_at hl 7 rfl) ?_
                          refine lv_iconst (v := 1) X.1 X.2.1 dX6_felt_147 (by decide) ?_
                          refine lv_icmp_ne (tgt := 156) X.1 X.2.1 dX6_felt_148 (by decide) (fun q => absurd c15 q) (fun _ => ?_)
                          refine lv_bipush (v := 7) X.1 X.2.1 dX6_felt_151 (by decide) ?_
                          refine lv_goto (tgt := 158) X.1 X.2.1 dX6_felt_153 (by decide) ?_
                          refine lv_iload_n X.1 X.2.1 dX6_felt_158 rfl (lv_at hl 2 rfl) ?_
                          refine lv_iadd X.1 X.2.1 dX6_felt_159 ?_
                          refine lv_iload X.1 X.2.1 dX6_felt_160 (lv_at hl 10 rfl) ?_
                          obtain ⟨hi41, hf⟩ := gin_of hf
                          refine x_iast X hP hS hG_M.2.2.2.2.2.2.1 (by omega) hi41 dX6_felt_162 (fun E H locs h1 hk hP hS => ?_)
                          have hG_M := Mo_set_6 hG_M h1 hk
                          have hfr : ∀ j, (j < 64 ∨ 74 ≤ j) → E j = E0 j := fun j o0 => (hk j (by omega)).trans (hfr j o0)
                          refine lv_iload X.1 X.2.1 dX6_felt_163 (lv_at hl 9 rfl) ?_
                          refine lv_aload_n X.1 X.2.1 dX6_felt_165 rfl (lv_at hl 0 rfl) ?_
                          refine lv_iload_n X.1 X.2.1 dX6_felt_166 rfl (lv_at hl 1 rfl) ?_
                          refine lv_iload_n X.1 X.2.1 dX6_felt_167 rfl (lv_at hl 3 rfl) ?_
                          refine lv_iload X.1 X.2.1 dX6_felt_168 (lv_at hl 5 rfl) ?_
                          refine lv_iload X.1 X.2.1 dX6_felt_170 (lv_at hl 6 rfl) ?_
                          obtain ⟨r42, hr42, hf⟩ := bd_of hf
                          refine x_callVi X hP hS hG_M.1 (by omega) rfl (n := 4) (As := [.int p1, .int p3, .int p5, .int p6]) (ct_X6_isFelt hG_M hr42) gX6_felt_X6_isFelt rfl (by decide +kernel) ⟨by decide, by decide⟩ rfl hl.1 rfl (Nat.le_of_ble_eq_true rfl) dX6_felt_172 (fun E H locs hp hP hS => ?_)
                          obtain ⟨hW_M, hk⟩ := hp
                          have hG_M := hW_M
                          have hfr : ∀ j, (j < 64 ∨ 74 ≤ j) → E j = E0 j := fun j o0 => (hk j (by omega)).trans (hfr j o0)
                          refine lv_if_eq (tgt := 185) X.1 X.2.1 dX6_felt_175 (by decide) (fun c43 => ?_) (fun c43 => ?_)
                          · have hf := ifp hf c43
                            refine lv_iconst (v := 0) X.1 X.2.1 dX6_felt_185 (by decide) ?_
                            refine lv_ior X.1 X.2.1 dX6_felt_186 ?_
                            obtain ⟨x44, ex44, hf⟩ := nm_of hf
                            refine lv_top_as ex44 ?_
                            refine lv_istore (lv' := [(9, .int x44), (0, .ref (qa 64)), (1, .int p1), (2, .int p2), (3, .int p3), (4, .int p4), (5, .int p5), (6, .int p6), (7, .int p7), (8, .int r13), (10, .int v10_37)]) X.1 X.2.1 dX6_felt_187 hl (by decide) rfl (fun ls hl => ?_)
                            obtain ⟨x45, ex45, hf⟩ := nm_of hf
                            refine lv_iinc (v := x45) (lv' := [(10, .int x45), (9, .int x44), (0, .ref (qa 64)), (1, .int p1), (2, .int p2), (3, .int p3), (4, .int p4), (5, .int p5), (6, .int p6), (7, .int p7), (8, .int r13)]) X.1 X.2.1 dX6_felt_189 hl (k := 10) rfl (by rw [ex45]; rfl) (by decide) rfl (fun ls hl => ?_)
                            refine lv_goto (tgt := 93) X.1 X.2.1 dX6_felt_192 (by decide) ?_
                            exact ih37 x44 x45 r42.2 _ _ _ _ hf hP hS hG_M hfr (lv_sub hl [2, 3, 4, 5, 6, 7, 8, 9, 10, 1, 0] rfl)
                          · have hf := ifn hf c43
                            refine lv_iconst (v := 1) X.1 X.2.1 dX6_felt_178 (by decide) ?_
                            refine lv_iload X.1 X.2.1 dX6_felt_179 (lv_at hl 10 rfl) ?_
                            refine lv_ishl X.1 X.2.1 dX6_felt_181 ?_
                            refine lv_goto (tgt := 186) X.1 X.2.1 dX6_felt_182 (by decide) ?_
                            refine lv_ior X.1 X.2.1 dX6_felt_186 ?_
                            obtain ⟨x46, ex46, hf⟩ := nm_of hf
                            refine lv_top_as ex46 ?_
                            refine lv_istore (lv' := [(9, .int x46), (0, .ref (qa 64)), (1, .int p1), (2, .int p2), (3, .int p3), (4, .int p4), (5, .int p5), (6, .int p6), (7, .int p7), (8, .int r13), (10, .int v10_37)]) X.1 X.2.1 dX6_felt_187 hl (by decide) rfl (fun ls hl => ?_)
                            obtain ⟨x47, ex47, hf⟩ := nm_of hf
                            refine lv_iinc (v := x47) (lv' := [(10, .int x47), (9, .int x46), (0, .ref (qa 64)), (1, .int p1), (2, .int p2), (3, .int p3), (4, .int p4), (5, .int p5), (6, .int p6), (7, .int p7), (8, .int r13)]) X.1 X.2.1 dX6_felt_189 hl (k := 10) rfl (by rw [ex47]; rfl) (by decide) rfl (fun ls hl => ?_)
                            refine lv_goto (tgt := 93) X.1 X.2.1 dX6_felt_192 (by decide) ?_
                            exact ih37 x46 x47 r42.2 _ _ _ _ hf hP hS hG_M hfr (lv_sub hl [2, 3, 4, 5, 6, 7, 8, 9, 10, 1, 0] rfl)
                      · have hf := ifp hf c38
                        refine lv_iconst (v := 4) X.1 X.2.1 dX6_felt_100 (by decide) ?_
                        refine lv_goto (tgt := 124) X.1 X.2.1 dX6_felt_101 (by decide) ?_
                        refine lv_icmp_gt (tgt := 195) X.1 X.2.1 dX6_felt_124 (by decide) (fun c48 => ?_) (fun c48 => ?_)
                        · have hf := ifp hf c48
                          refine lv_iload X.1 X.2.1 dX6_felt_195 (lv_at hl 9 rfl) ?_
                          obtain rfl := Option.some.inj hf
                          exact hret _ _ _ _ _ _ dX6_felt_197 rfl rfl (⟨hG_M, hfr⟩) hP hS
                        · have hf := ifn hf c48
                          refine lv_aload_n X.1 X.2.1 dX6_felt_127 rfl (lv_at hl 0 rfl) ?_
                          obtain ⟨r49, hr49, hf⟩ := bd_of hf
                          refine x_callVv X hP hS hG_M.1 (by omega) rfl (n := 0) (As := []) (ct_X6_begin hG_M hr49) gX6_felt_X6_begin rfl (by decide +kernel) ⟨by decide, by decide⟩ rfl hl.1 rfl (Nat.le_of_ble_eq_true rfl) dX6_felt_128 (fun E H locs hp hP hS => ?_)
                          obtain ⟨hW_M, hk⟩ := hp
                          have hG_M := hW_M
                          have hfr : ∀ j, (j < 64 ∨ 74 ≤ j) → E j = E0 j := fun j o0 => (hk j (by omega)).trans (hfr j o0)
                          refine lv_aload_n X.1 X.2.1 dX6_felt_131 rfl (lv_at hl 0 rfl) ?_
                          refine x_get X hP hG_M.1 (by omega) rfl in_X6_felt_X6 8 (by decide) (by decide +kernel) rfl rfl dX6_felt_132 ?_
                          refine lv_iload X.1 X.2.1 dX6_felt_135 (lv_at hl 7 rfl) ?_
                          refine lv_if_ne (tgt := 145) X.1 X.2.1 dX6_felt_137 (by decide) (fun q => absurd c38 q) (fun _ => ?_)
                          refine lv_bipush (v := 26) X.1 X.2.1 dX6_felt_140 (by decide) ?_
                          refine lv_goto (tgt := 158) X.1 X.2.1 dX6_felt_142 (by decide) ?_
                          refine lv_iload_n X.1 X.2.1 dX6_felt_158 rfl (lv_at hl 2 rfl) ?_
                          refine lv_iadd X.1 X.2.1 dX6_felt_159 ?_
                          refine lv_iload X.1 X.2.1 dX6_felt_160 (lv_at hl 10 rfl) ?_
                          obtain ⟨hi50, hf⟩ := gin_of hf
                          refine x_iast X hP hS hG_M.2.2.2.2.2.2.1 (by omega) hi50 dX6_felt_162 (fun E H locs h1 hk hP hS => ?_)
                          have hG_M := Mo_set_6 hG_M h1 hk
                          have hfr : ∀ j, (j < 64 ∨ 74 ≤ j) → E j = E0 j := fun j o0 => (hk j (by omega)).trans (hfr j o0)
                          refine lv_iload X.1 X.2.1 dX6_felt_163 (lv_at hl 9 rfl) ?_
                          refine lv_aload_n X.1 X.2.1 dX6_felt_165 rfl (lv_at hl 0 rfl) ?_
                          refine lv_iload_n X.1 X.2.1 dX6_felt_166 rfl (lv_at hl 1 rfl) ?_
                          refine lv_iload_n X.1 X.2.1 dX6_felt_167 rfl (lv_at hl 3 rfl) ?_
                          refine lv_iload X.1 X.2.1 dX6_felt_168 (lv_at hl 5 rfl) ?_
                          refine lv_iload X.1 X.2.1 dX6_felt_170 (lv_at hl 6 rfl) ?_
                          obtain ⟨r51, hr51, hf⟩ := bd_of hf
                          refine x_callVi X hP hS hG_M.1 (by omega) rfl (n := 4) (As := [.int p1, .int p3, .int p5, .int p6]) (ct_X6_isFelt hG_M hr51) gX6_felt_X6_isFelt rfl (by decide +kernel) ⟨by decide, by decide⟩ rfl hl.1 rfl (Nat.le_of_ble_eq_true rfl) dX6_felt_172 (fun E H locs hp hP hS => ?_)
                          obtain ⟨hW_M, hk⟩ := hp
                          have hG_M := hW_M
                          have hfr : ∀ j, (j < 64 ∨ 74 ≤ j) → E j = E0 j := fun j o0 => (hk j (by omega)).trans (hfr j o0)
                          refine lv_if_eq (tgt := 185) X.1 X.2.1 dX6_felt_175 (by decide) (fun c52 => ?_) (fun c52 => ?_)
                          · have hf := ifp hf c52
                            refine lv_iconst (v := 0) X.1 X.2.1 dX6_felt_185 (by decide) ?_
                            refine lv_ior X.1 X.2.1 dX6_felt_186 ?_
                            obtain ⟨x53, ex53, hf⟩ := nm_of hf
                            refine lv_top_as ex53 ?_
                            refine lv_istore (lv' := [(9, .int x53), (0, .ref (qa 64)), (1, .int p1), (2, .int p2), (3, .int p3), (4, .int p4), (5, .int p5), (6, .int p6), (7, .int p7), (8, .int r13), (10, .int v10_37)]) X.1 X.2.1 dX6_felt_187 hl (by decide) rfl (fun ls hl => ?_)
                            obtain ⟨x54, ex54, hf⟩ := nm_of hf
                            refine lv_iinc (v := x54) (lv' := [(10, .int x54), (9, .int x53), (0, .ref (qa 64)), (1, .int p1), (2, .int p2), (3, .int p3), (4, .int p4), (5, .int p5), (6, .int p6), (7, .int p7), (8, .int r13)]) X.1 X.2.1 dX6_felt_189 hl (k := 10) rfl (by rw [ex54]; rfl) (by decide) rfl (fun ls hl => ?_)
                            refine lv_goto (tgt := 93) X.1 X.2.1 dX6_felt_192 (by decide) ?_
                            exact ih37 x53 x54 r51.2 _ _ _ _ hf hP hS hG_M hfr (lv_sub hl [2, 3, 4, 5, 6, 7, 8, 9, 10, 1, 0] rfl)
                          · have hf := ifn hf c52
                            refine lv_iconst (v := 1) X.1 X.2.1 dX6_felt_178 (by decide) ?_
                            refine lv_iload X.1 X.2.1 dX6_felt_179 (lv_at hl 10 rfl) ?_
                            refine lv_ishl X.1 X.2.1 dX6_felt_181 ?_
                            refine lv_goto (tgt := 186) X.1 X.2.1 dX6_felt_182 (by decide) ?_
                            refine lv_ior X.1 X.2.1 dX6_felt_186 ?_
                            obtain ⟨x55, ex55, hf⟩ := nm_of hf
                            refine lv_top_as ex55 ?_
                            refine lv_istore (lv' := [(9, .int x55), (0, .ref (qa 64)), (1, .int p1), (2, .int p2), (3, .int p3), (4, .int p4), (5, .int p5), (6, .int p6), (7, .int p7), (8, .int r13), (10, .int v10_37)]) X.1 X.2.1 dX6_felt_187 hl (by decide) rfl (fun ls hl => ?_)
                            obtain ⟨x56, ex56, hf⟩ := nm_of hf
                            refine lv_iinc (v := x56) (lv' := [(10, .int x56), (9, .int x55), (0, .ref (qa 64)), (1, .int p1), (2, .int p2), (3, .int p3), (4, .int p4), (5, .int p5), (6, .int p6), (7, .int p7), (8, .int r13)]) X.1 X.2.1 dX6_felt_189 hl (k := 10) rfl (by rw [ex56]; rfl) (by decide) rfl (fun ls hl => ?_)
                            refine lv_goto (tgt := 93) X.1 X.2.1 dX6_felt_192 (by decide) ?_
                            exact ih37 x55 x56 r51.2 _ _ _ _ hf hP hS hG_M hfr (lv_sub hl [2, 3, 4, 5, 6, 7, 8, 9, 10, 1, 0] rfl)
                  exact lp37 FU 0 1 tri_M _ _ _ _ hf hP hS hG_M hfr (lv_sub hl [3, 4, 5, 6, 7, 8, 9, 10, 2, 1, 0] rfl)
              · have hf := ifn hf c14
                refine lv_iload X.1 X.2.1 dX6_felt_74 (lv_at hl 0 rfl) ?_
                obtain rfl := Option.some.inj hf
                exact hret _ _ _ _ _ _ dX6_felt_76 rfl rfl (⟨hG_M, hfr⟩) hP hS
            · have hf := ifp hf c12
              refine lv_iconst (v := (-1)) X.1 X.2.1 dX6_felt_54 (by decide) ?_
              obtain rfl := Option.some.inj hf
              exact hret _ _ _ _ _ _ dX6_felt_55 rfl rfl (⟨hG_M, hfr⟩) hP hS
def fX6_few (p1 : Int32)  (bm_M : Int32) (bch_M : Int32) (now_M : Nat → Int32) (tri_M : Nat → Int32) (bes_M : Nat → Int32) : Option (Int32 × Int32 × Int32 × (Nat → Int32) × (Nat → Int32)) := if (-2) ≤ p1 then ((fX6_layBest 0 now_M tri_M bes_M).bind (fun r2 => if p1 = (-1) then (some (r2.1, r2.1, r2.2.1, r2.2.2.1, r2.2.2.2)) else (if p1 = (-2) then (some (r2.2.1, r2.1, r2.2.1, r2.2.2.1, r2.2.2.2)) else ((fX6_isMedal p1 now_M).bind (fun r5 => if r5 = 0 then (some ((-4), r2.1, r2.2.1, r2.2.2.1, r2.2.2.2)) else (gin p1 6 (some (r2.2.2.2 (Int32.toNatClampNeg p1), r2.1, r2.2.1, r2.2.2.1, r2.2.2.2)))))))) else (some ((-1), bm_M, bch_M, tri_M, bes_M))
theorem in_X6_few_X6 : ∀ w ∈ wsX60, w ∈ wsX6_few := by decide +kernel
set_option maxHeartbeats 4000000 in
set_option maxRecDepth 100000 in
theorem ct_X6_few {l : Launch} {D : va_G} {g : Nat → ClassId} {qa : Nat → Nat} {E0 : Nat → va_E} {p1 : Int32} {ltr_M : Int32} {pos_M : Int32} {num_M : Int32} {isk_M : Int32} {bm_M : Int32} {bch_M : Int32} {lan_M : Nat → Int32} {siz_M : Nat → Int32} {itm_M : Nat → Int64} {tap_M : Nat → Int32} {now_M : Nat → Int32} {tri_M : Nat → Int32} {rd_M : Nat → Int32} {kp_M : Nat → Int32} {bes_M : Nat → Int32} (hG_M : Mo g qa E0 64 ltr_M pos_M num_M isk_M bm_M bch_M lan_M siz_M itm_M tap_M now_M tri_M rd_M kp_M bes_M) {R : (Int32 × Int32 × Int32 × (Nat → Int32) × (Nat → Int32))} (hf : fX6_few p1 bm_M bch_M now_M tri_M bes_M = some R) : MI l yX6_few wsX6_few 6 D g qa E0 [.ref (qa 64), .int p1] R.1 (fun E => Mo g qa E 64 ltr_M pos_M num_M isk_M R.2.1 R.2.2.1 lan_M siz_M itm_M tap_M now_M R.2.2.2.1 rd_M kp_M R.2.2.2.2 ∧ ∀ j, (j < 64 ∨ 74 ≤ j) → E j = E0 j) := by
  refine MI.mk (by decide) rfl (Nat.le_of_ble_eq_true rfl) ?_
  intro p e s m args below meth c ls Q X hret hP hS hl
  have hl : lv_has ls 2 [(0, .ref (qa 64)), (1, .int p1)] := hl
  have hfr : ∀ j, (j < 64 ∨ 74 ≤ j) → E0 j = E0 j := fun _ _ => rfl
  rw [fX6_few] at hf
  refine lv_iload_n X.1 X.2.1 dX6_few_0 rfl (lv_at hl 1 rfl) ?_
  refine lv_bipush (v := (-2)) X.1 X.2.1 dX6_few_1 (by decide) ?_
  refine lv_icmp_ge (tgt := 8) X.1 X.2.1 dX6_few_3 (by decide) (fun c1 => ?_) (fun c1 => ?_)
  · have hf := ifp hf c1
    refine lv_aload_n X.1 X.2.1 dX6_few_8 rfl (lv_at hl 0 rfl) ?_
    refine lv_iconst (v := 0) X.1 X.2.1 dX6_few_9 (by decide) ?_
    obtain ⟨r2, hr2, hf⟩ := bd_of hf
    refine x_callVv X hP hS hG_M.1 (by omega) rfl (n := 1) (As := [.int 0]) (ct_X6_layBest hG_M hr2) gX6_few_X6_layBest rfl (by decide +kernel) ⟨by decide, by decide⟩ rfl hl.1 rfl (Nat.le_of_ble_eq_true rfl) dX6_few_10 (fun E H locs hp hP hS => ?_)
    obtain ⟨hW_M, hk⟩ := hp
    have hG_M := hW_M
    have hfr : ∀ j, (j < 64 ∨ 74 ≤ j) → E j = E0 j := fun j o0 => (hk j (by omega)).trans (hfr j o0)
    refine lv_iload_n X.1 X.2.1 dX6_few_13 rfl (lv_at hl 1 rfl) ?_
    refine lv_iconst (v := (-1)) X.1 X.2.1 dX6_few_14 (by decide) ?_
    refine lv_icmp_ne (tgt := 25) X.1 X.2.1 dX6_few_15 (by decide) (fun c3 => ?_) (fun c3 => ?_)
    · have hf := ifn hf c3
      refine lv_iload_n X.1 X.2.1 dX6_few_25 rfl (lv_at hl 1 rfl) ?_
      refine lv_bipush (v := (-2)) X.1 X.2.1 dX6_few_26 (by decide) ?_
      refine lv_icmp_ne (tgt := 38) X.1 X.2.1 dX6_few_28 (by decide) (fun c4 => ?_) (fun c4 => ?_)
      · have hf := ifn hf c4
        refine lv_aload_n X.1 X.2.1 dX6_few_38 rfl (lv_at hl 0 rfl) ?_
        refine lv_iload_n X.1 X.2.1 dX6_few_39 rfl (lv_at hl 1 rfl) ?_
        obtain ⟨r5, hr5, hf⟩ := bd_of hf
        refine x_rdVi X hP hS hG_M.1 (by omega) rfl (n := 1) (As := [.int p1]) (ct_X6_isMedal hG_M hr5) gX6_few_X6_isMedal rfl (by decide +kernel) ⟨by decide, by decide⟩ rfl hl.1 rfl (Nat.le_of_ble_eq_true rfl) dX6_few_40 (fun H locs hP hS => ?_)
        refine lv_if_eq (tgt := 55) X.1 X.2.1 dX6_few_43 (by decide) (fun c6 => ?_) (fun c6 => ?_)
        · have hf := ifp hf c6
          refine lv_bipush (v := (-4)) X.1 X.2.1 dX6_few_55 (by decide) ?_
          obtain rfl := Option.some.inj hf
          exact hret _ _ _ _ _ _ dX6_few_57 rfl rfl (⟨hG_M, hfr⟩) hP hS
        · have hf := ifn hf c6
          refine lv_aload_n X.1 X.2.1 dX6_few_46 rfl (lv_at hl 0 rfl) ?_
          refine x_get X hP hG_M.1 (by omega) rfl in_X6_few_X6 12 (by decide) (by decide +kernel) rfl rfl dX6_few_47 ?_
          refine lv_iload_n X.1 X.2.1 dX6_few_50 rfl (lv_at hl 1 rfl) ?_
          obtain ⟨hi7, hf⟩ := gin_of hf
          refine x_iald X hP hG_M.2.2.2.2.2.2.2.2.2 (by omega) hi7 dX6_few_51 ?_
          refine lv_goto (tgt := 57) X.1 X.2.1 dX6_few_52 (by decide) ?_
          obtain rfl := Option.some.inj hf
          exact hret _ _ _ _ _ _ dX6_few_57 rfl rfl (⟨hG_M, hfr⟩) hP hS
      · have hf := ifp hf c4
        refine lv_aload_n X.1 X.2.1 dX6_few_31 rfl (lv_at hl 0 rfl) ?_
        refine x_get X hP hG_M.1 (by omega) rfl in_X6_few_X6 14 (by decide) (by decide +kernel) rfl rfl dX6_few_32 ?_
        refine lv_goto (tgt := 57) X.1 X.2.1 dX6_few_35 (by decide) ?_
        obtain rfl := Option.some.inj hf
        exact hret _ _ _ _ _ _ dX6_few_57 rfl rfl (⟨hG_M, hfr⟩) hP hS
    · have hf := ifp hf c3
      refine lv_aload_n X.1 X.2.1 dX6_few_18 rfl (lv_at hl 0 rfl) ?_
      refine x_get X hP hG_M.1 (by omega) rfl in_X6_few_X6 13 (by decide) (by decide +kernel) rfl rfl dX6_few_19 ?_
      refine lv_goto (tgt := 57) X.1 X.2.1 dX6_few_22 (by decide) ?_
      obtain rfl := Option.some.inj hf
      exact hret _ _ _ _ _ _ dX6_few_57 rfl rfl (⟨hG_M, hfr⟩) hP hS
  · have hf := ifn hf c1
    refine lv_iconst (v := (-1)) X.1 X.2.1 dX6_few_6 (by decide) ?_
    obtain rfl := Option.some.inj hf
    exact hret _ _ _ _ _ _ dX6_few_7 rfl rfl (⟨hG_M, hfr⟩) hP hS
def bX6_film_64 (p1 : Int32) (p2 : Int32) (p3 : Int32) (p4 : Int32) (p5 : Int32) (K12 : ((Int32 × (Nat → Int64) × (Nat → Int32))) → Option (Int32 × (Nat → Int64) × (Nat → Int32))) : ((Int32 × (Nat → Int64) × (Nat → Int32))) → Option (Int32 × (Nat → Int64) × (Nat → Int32))
  | (v7_12, itm_M_12, tri_M_12) => if p2 ≤ v7_12 then (some (p2, itm_M_12, tri_M_12)) else ((fX6_dayIn tri_M_12).bind (fun r14 => gin (2 + p1) 191 ((fX6_cutTo p4 (Int32.toInt64 (r14 (Int32.toNatClampNeg (2 + p1))))).bind (fun r16 => gin (((24 * p3) + p5) + v7_12) 96 (nm (v7_12 + 1) (fun x18 => K12 (x18, vp_updL itm_M_12 (Int32.toNatClampNeg (((24 * p3) + p5) + v7_12)) r16, r14)))))))
def fX6_film (p1 : Int32) (p2 : Int32) (p3 : Int32) (p4 : Int32) (p5 : Int32)  (lan_M : Nat → Int32) (siz_M : Nat → Int32) (itm_M : Nat → Int64) (now_M : Nat → Int32) (tri_M : Nat → Int32) : Option (Int32 × (Nat → Int64) × (Nat → Int32)) := (fX6_isMan p1 now_M).bind (fun r1 => if r1 = 0 then (some ((-1), itm_M, tri_M)) else ((fX6_in p2 1 24).bind (fun r3 => if r3 = 0 then (some ((-1), itm_M, tri_M)) else ((fX6_isSheet p3).bind (fun r5 => if r5 = 0 then (some ((-1), itm_M, tri_M)) else ((fX6_in p4 0 3).bind (fun r7 => if r7 = 0 then (some ((-1), itm_M, tri_M)) else ((fX6_wrong p3 p4 p5 p2 lan_M siz_M).bind (fun r9 => if r9 = 0 then ((fX6_begin now_M tri_M).bind (fun r11 => lp (bX6_film_64 p1 p2 p3 p4 p5) FU (0, itm_M, r11))) else (some (r9, itm_M, tri_M)))))))))))
theorem in_X6_film_X6 : ∀ w ∈ wsX60, w ∈ wsX6_film := by decide +kernel
set_option maxHeartbeats 4000000 in
set_option maxRecDepth 100000 in
theorem ct_X6_film {l : Launch} {D : va_G} {g : Nat → ClassId} {qa : Nat → Nat} {E0 : Nat → va_E} {p1 : Int32} {p2 : Int32} {p3 : Int32} {p4 : Int32} {p5 : Int32} {ltr_M : Int32} {pos_M : Int32} {num_M : Int32} {isk_M : Int32} {bm_M : Int32} {bch_M : Int32} {lan_M : Nat → Int32} {siz_M : Nat → Int32} {itm_M : Nat → Int64} {tap_M : Nat → Int32} {now_M : Nat → Int32} {tri_M : Nat → Int32} {rd_M : Nat → Int32} {kp_M : Nat → Int32} {bes_M : Nat → Int32} (hG_M : Mo g qa E0 64 ltr_M pos_M num_M isk_M bm_M bch_M lan_M siz_M itm_M tap_M now_M tri_M rd_M kp_M bes_M) {R : (Int32 × (Nat → Int64) × (Nat → Int32))} (hf : fX6_film p1 p2 p3 p4 p5 lan_M siz_M itm_M now_M tri_M = some R) : MI l yX6_film wsX6_film 6 D g qa E0 [.ref (qa 64), .int p1, .int p2, .int p3, .int p4, .int p5] R.1 (fun E => Mo g qa E 64 ltr_M pos_M num_M isk_M bm_M bch_M lan_M siz_M R.2.1 tap_M now_M R.2.2 rd_M kp_M bes_M ∧ ∀ j, (j < 64 ∨ 74 ≤ j) → E j = E0 j) := by
  refine MI.mk (by decide) rfl (Nat.le_of_ble_eq_true rfl) ?_
  intro p e s m args below meth c ls Q X hret hP hS hl
  have hl : lv_has ls 8 [(0, .ref (qa 64)), (1, .int p1), (2, .int p2), (3, .int p3), (4, .int p4), (5, .int p5)] := hl
  have hfr : ∀ j, (j < 64 ∨ 74 ≤ j) → E0 j = E0 j := fun _ _ => rfl
  rw [fX6_film] at hf
  refine lv_aload_n X.1 X.2.1 dX6_film_0 rfl (lv_at hl 0 rfl) ?_
  refine lv_iload_n X.1 X.2.1 dX6_film_1 rfl (lv_at hl 1 rfl) ?_
  obtain ⟨r1, hr1, hf⟩ := bd_of hf
  refine x_rdVi X hP hS hG_M.1 (by omega) rfl (n := 1) (As := [.int p1]) (ct_X6_isMan hG_M hr1) gX6_film_X6_isMan rfl (by decide +kernel) ⟨by decide, by decide⟩ rfl hl.1 rfl (Nat.le_of_ble_eq_true rfl) dX6_film_2 (fun H locs hP hS => ?_)
  refine lv_if_eq (tgt := 35) X.1 X.2.1 dX6_film_5 (by decide) (fun c2 => ?_) (fun c2 => ?_)
  · have hf := ifp hf c2
    refine lv_iconst (v := (-1)) X.1 X.2.1 dX6_film_35 (by decide) ?_
    obtain rfl := Option.some.inj hf
    exact hret _ _ _ _ _ _ dX6_film_36 rfl rfl (⟨hG_M, hfr⟩) hP hS
  · have hf := ifn hf c2
    refine lv_iload_n X.1 X.2.1 dX6_film_8 rfl (lv_at hl 2 rfl) ?_
    refine lv_iconst (v := 1) X.1 X.2.1 dX6_film_9 (by decide) ?_
    refine lv_bipush (v := 24) X.1 X.2.1 dX6_film_10 (by decide) ?_
    obtain ⟨r3, hr3, hf⟩ := bd_of hf
    refine x_rdSi X hP hS (index := 38) (n := 3) (As := [.int p2, .int 1, .int 24]) (ct_X6_in  hr3) ggX6_film_X6_in (by decide +kernel) (by decide +kernel) (by decide +kernel) rfl (by decide +kernel) ⟨by decide, by decide⟩ rfl hl.1 rfl (Nat.le_of_ble_eq_true rfl) dX6_film_12 (fun H locs hP hS => ?_)
    refine lv_if_eq (tgt := 35) X.1 X.2.1 dX6_film_15 (by decide) (fun c4 => ?_) (fun c4 => ?_)
    · have hf := ifp hf c4
      refine lv_iconst (v := (-1)) X.1 X.2.1 dX6_film_35 (by decide) ?_
      obtain rfl := Option.some.inj hf
      exact hret _ _ _ _ _ _ dX6_film_36 rfl rfl (⟨hG_M, hfr⟩) hP hS
    · have hf := ifn hf c4
      refine lv_iload_n X.1 X.2.1 dX6_film_18 rfl (lv_at hl 3 rfl) ?_
      obtain ⟨r5, hr5, hf⟩ := bd_of hf
      refine x_rdSi X hP hS (index := 178) (n := 1) (As := [.int p3]) (ct_X6_isSheet  hr5) ggX6_film_X6_isSheet (by decide +kernel) (by decide +kernel) (by decide +kernel) rfl (by decide +kernel) ⟨by decide, by decide⟩ rfl hl.1 rfl (Nat.le_of_ble_eq_true rfl) dX6_film_19 (fun H locs hP hS => ?_)
      refine lv_if_eq (tgt := 35) X.1 X.2.1 dX6_film_22 (by decide) (fun c6 => ?_) (fun c6 => ?_)
      · have hf := ifp hf c6
        refine lv_iconst (v := (-1)) X.1 X.2.1 dX6_film_35 (by decide) ?_
        obtain rfl := Option.some.inj hf
        exact hret _ _ _ _ _ _ dX6_film_36 rfl rfl (⟨hG_M, hfr⟩) hP hS
      · have hf := ifn hf c6
        refine lv_iload X.1 X.2.1 dX6_film_25 (lv_at hl 4 rfl) ?_
        refine lv_iconst (v := 0) X.1 X.2.1 dX6_film_27 (by decide) ?_
        refine lv_iconst (v := 3) X.1 X.2.1 dX6_film_28 (by decide) ?_
        obtain ⟨r7, hr7, hf⟩ := bd_of hf
        refine x_rdSi X hP hS (index := 38) (n := 3) (As := [.int p4, .int 0, .int 3]) (ct_X6_in  hr7) ggX6_film_X6_in (by decide +kernel) (by decide +kernel) (by decide +kernel) rfl (by decide +kernel) ⟨by decide, by decide⟩ rfl hl.1 rfl (Nat.le_of_ble_eq_true rfl) dX6_film_29 (fun H locs hP hS => ?_)
        refine lv_if_ne (tgt := 37) X.1 X.2.1 dX6_film_32 (by decide) (fun c8 => ?_) (fun c8 => ?_)
        · have hf := ifn hf c8
          refine lv_aload_n X.1 X.2.1 dX6_film_37 rfl (lv_at hl 0 rfl) ?_
          refine lv_iload_n X.1 X.2.1 dX6_film_38 rfl (lv_at hl 3 rfl) ?_
          refine lv_iload X.1 X.2.1 dX6_film_39 (lv_at hl 4 rfl) ?_
          refine lv_iload X.1 X.2.1 dX6_film_41 (lv_at hl 5 rfl) ?_
          refine lv_iload_n X.1 X.2.1 dX6_film_43 rfl (lv_at hl 2 rfl) ?_
          obtain ⟨r9, hr9, hf⟩ := bd_of hf
          refine x_rdVi X hP hS hG_M.1 (by omega) rfl (n := 4) (As := [.int p3, .int p4, .int p5, .int p2]) (ct_X6_wrong hG_M hr9) gX6_film_X6_wrong rfl (by decide +kernel) ⟨by decide, by decide⟩ rfl hl.1 rfl (Nat.le_of_ble_eq_true rfl) dX6_film_44 (fun H locs hP hS => ?_)
          refine lv_istore (lv' := [(6, .int r9), (0, .ref (qa 64)), (1, .int p1), (2, .int p2), (3, .int p3), (4, .int p4), (5, .int p5)]) X.1 X.2.1 dX6_film_47 hl (by decide) rfl (fun ls hl => ?_)
          refine lv_iload X.1 X.2.1 dX6_film_49 (lv_at hl 0 rfl) ?_
          refine lv_if_eq (tgt := 57) X.1 X.2.1 dX6_film_51 (by decide) (fun c10 => ?_) (fun c10 => ?_)
          · have hf := ifp hf c10
            refine lv_aload_n X.1 X.2.1 dX6_film_57 rfl (lv_at hl 1 rfl) ?_
            obtain ⟨r11, hr11, hf⟩ := bd_of hf
            refine x_callVv X hP hS hG_M.1 (by omega) rfl (n := 0) (As := []) (ct_X6_begin hG_M hr11) gX6_film_X6_begin rfl (by decide +kernel) ⟨by decide, by decide⟩ rfl hl.1 rfl (Nat.le_of_ble_eq_true rfl) dX6_film_58 (fun E H locs hp hP hS => ?_)
            obtain ⟨hW_M, hk⟩ := hp
            have hG_M := hW_M
            have hfr : ∀ j, (j < 64 ∨ 74 ≤ j) → E j = E0 j := fun j o0 => (hk j (by omega)).trans (hfr j o0)
            refine lv_iconst (v := 0) X.1 X.2.1 dX6_film_61 (by decide) ?_
            refine lv_istore (lv' := [(7, .int 0), (6, .int r9), (0, .ref (qa 64)), (1, .int p1), (2, .int p2), (3, .int p3), (4, .int p4), (5, .int p5)]) X.1 X.2.1 dX6_film_62 hl (by decide) rfl (fun ls hl => ?_)
            have lp12 : ∀ (n12 : Nat) (v7_12 : Int32) (itm_M_12 : Nat → Int64) (tri_M_12 : Nat → Int32) (E : Nat → va_E) (H : Heap) (locs : List Loc) (ls : Array Slot), lp (bX6_film_64 p1 p2 p3 p4 p5) n12 (v7_12, itm_M_12, tri_M_12) = some R → va_P D vwCl (WD qa E) H → va_S (gA qa s.heap.size) s.heap H locs → Mo g qa E 64 ltr_M pos_M num_M isk_M bm_M bch_M lan_M siz_M itm_M_12 tap_M now_M tri_M_12 rd_M kp_M bes_M → (∀ j, (j < 64 ∨ 74 ≤ j) → E j = E0 j) → lv_has ls 8 [(0, .ref (qa 64)), (1, .int p1), (2, .int p2), (3, .int p3), (4, .int p4), (5, .int p5), (6, .int r9), (7, .int v7_12)] → W p l e (rmf 6) s m args below meth c H locs 0 0 Q (F0 m 64 ls []) := by
              intro n12
              induction n12 with
              | zero =>
                intro v7_12 itm_M_12 tri_M_12 E H locs ls hf
                exact absurd hf (by intro h; cases h)
              | succ n12 ih12 =>
                intro v7_12 itm_M_12 tri_M_12 E H locs ls hf hP hS hG_M hfr hl
                have hf : bX6_film_64 p1 p2 p3 p4 p5 (lp (bX6_film_64 p1 p2 p3 p4 p5) n12) (v7_12, itm_M_12, tri_M_12) = some R := hf
                rw [bX6_film_64] at hf
                refine lv_iload X.1 X.2.1 dX6_film_64 (lv_at hl 7 rfl) ?_
                refine lv_iload_n X.1 X.2.1 dX6_film_66 rfl (lv_at hl 2 rfl) ?_
                refine lv_icmp_ge (tgt := 112) X.1 X.2.1 dX6_film_67 (by decide) (fun c13 => ?_) (fun c13 => ?_)
                · have hf := ifp hf c13
                  refine lv_iload_n X.1 X.2.1 dX6_film_112 rfl (lv_at hl 2 rfl) ?_
                  obtain rfl := Option.some.inj hf
                  exact hret _ _ _ _ _ _ dX6_film_113 rfl rfl (⟨hG_M, hfr⟩) hP hS
                · have hf := ifn hf c13
                  refine lv_aload_n X.1 X.2.1 dX6_film_70 rfl (lv_at hl 0 rfl) ?_
                  refine x_get X hP hG_M.1 (by omega) rfl in_X6_film_X6 8 (by decide) (by decide +kernel) rfl rfl dX6_film_71 ?_
                  obtain ⟨r14, hr14, hf⟩ := bd_of hf
                  refine x_callSv X hP hS (index := 131) (n := 1) (As := [.ref (qa (64 + 6))]) (ct_X6_dayIn (by omega) hG_M.2.2.2.2.2.2.1 hr14) ggX6_film_X6_dayIn (by decide +kernel) (by decide +kernel) (by decide +kernel) rfl (by decide +kernel) ⟨by decide, by decide⟩ rfl hl.1 rfl (Nat.le_of_ble_eq_true rfl) dX6_film_74 (fun E H locs hp hP hS => ?_)
                  obtain ⟨hW_s, hk⟩ := hp
                  have hG_M := Mo_set_6 hG_M hW_s hk
                  have hfr : ∀ j, (j < 64 ∨ 74 ≤ j) → E j = E0 j := fun j o0 => (hk j (by omega)).trans (hfr j o0)
                  refine lv_aload_n X.1 X.2.1 dX6_film_77 rfl (lv_at hl 0 rfl) ?_
                  refine x_get X hP hG_M.1 (by omega) rfl in_X6_film_X6 2 (by decide) (by decide +kernel) rfl rfl dX6_film_78 ?_
                  refine lv_bipush (v := 24) X.1 X.2.1 dX6_film_81 (by decide) ?_
                  refine lv_iload_n X.1 X.2.1 dX6_film_83 rfl (lv_at hl 3 rfl) ?_
                  refine lv_imul X.1 X.2.1 dX6_film_84 ?_
                  refine lv_iload X.1 X.2.1 dX6_film_85 (lv_at hl 5 rfl) ?_
                  refine lv_iadd X.1 X.2.1 dX6_film_87 ?_
                  refine lv_iload X.1 X.2.1 dX6_film_88 (lv_at hl 7 rfl) ?_
                  refine lv_iadd X.1 X.2.1 dX6_film_90 ?_
                  refine lv_iload X.1 X.2.1 dX6_film_91 (lv_at hl 4 rfl) ?_
                  refine lv_aload_n X.1 X.2.1 dX6_film_93 rfl (lv_at hl 0 rfl) ?_
                  refine x_get X hP hG_M.1 (by omega) rfl in_X6_film_X6 8 (by decide) (by decide +kernel) rfl rfl dX6_film_94 ?_
                  refine lv_iconst (v := 2) X.1 X.2.1 dX6_film_97 (by decide) ?_
                  refine lv_iload_n X.1 X.2.1 dX6_film_98 rfl (lv_at hl 1 rfl) ?_
                  refine lv_iadd X.1 X.2.1 dX6_film_99 ?_
                  obtain ⟨hi15, hf⟩ := gin_of hf
                  refine x_iald X hP hG_M.2.2.2.2.2.2.1 (by omega) hi15 dX6_film_100 ?_
                  refine lv_i2l X.1 X.2.1 dX6_film_101 rfl ?_
                  obtain ⟨r16, hr16, hf⟩ := bd_of hf
                  refine x_rdSl X hP hS (index := 189) (n := 2) (As := [.int p4, .long (Int32.toInt64 (r14 (Int32.toNatClampNeg (2 + p1))))]) (ct_X6_cutTo  hr16) ggX6_film_X6_cutTo (by decide +kernel) (by decide +kernel) (by decide +kernel) rfl (by decide +kernel) ⟨by decide, by decide⟩ rfl hl.1 rfl (Nat.le_of_ble_eq_true rfl) dX6_film_102 (fun H locs hP hS => ?_)
                  obtain ⟨hi17, hf⟩ := gin_of hf
                  refine x_last X hP hS hG_M.2.2.2.1 (by omega) hi17 dX6_film_105 (fun E H locs h1 hk hP hS => ?_)
                  have hG_M := Mo_set_3 hG_M h1 hk
                  have hfr : ∀ j, (j < 64 ∨ 74 ≤ j) → E j = E0 j := fun j o0 => (hk j (by omega)).trans (hfr j o0)
                  obtain ⟨x18, ex18, hf⟩ := nm_of hf
                  refine lv_iinc (v := x18) (lv' := [(7, .int x18), (0, .ref (qa 64)), (1, .int p1), (2, .int p2), (3, .int p3), (4, .int p4), (5, .int p5), (6, .int r9)]) X.1 X.2.1 dX6_film_106 hl (k := 7) rfl (by rw [ex18]; rfl) (by decide) rfl (fun ls hl => ?_)
                  refine lv_goto (tgt := 64) X.1 X.2.1 dX6_film_109 (by decide) ?_
                  exact ih12 x18 (vp_updL itm_M_12 (Int32.toNatClampNeg (((24 * p3) + p5) + v7_12)) r16) r14 _ _ _ _ hf hP hS hG_M hfr (lv_sub hl [1, 2, 3, 4, 5, 6, 7, 0] rfl)
            exact lp12 FU 0 itm_M r11 _ _ _ _ hf hP hS hG_M hfr (lv_sub hl [2, 3, 4, 5, 6, 7, 1, 0] rfl)
          · have hf := ifn hf c10
            refine lv_iload X.1 X.2.1 dX6_film_54 (lv_at hl 0 rfl) ?_
            obtain rfl := Option.some.inj hf
            exact hret _ _ _ _ _ _ dX6_film_56 rfl rfl (⟨hG_M, hfr⟩) hP hS
        · have hf := ifp hf c8
          refine lv_iconst (v := (-1)) X.1 X.2.1 dX6_film_35 (by decide) ?_
          obtain rfl := Option.some.inj hf
          exact hret _ _ _ _ _ _ dX6_film_36 rfl rfl (⟨hG_M, hfr⟩) hP hS
def fX6_hang (p1 : Int32) (p2 : Int32)  (now_M : Nat → Int32) : Option (Int32 × (Nat → Int32)) := (fX6_isMedal p1 now_M).bind (fun r1 => if r1 = 0 then (some ((-1), now_M)) else (if p2 = (-4) then (gin (13 + p1) 191 (nm (now_M (Int32.toNatClampNeg (13 + p1))) (fun x5 => if x5 = p2 then (some ((-2), now_M)) else ((fX6_note now_M).bind (fun r7 => gin (13 + p1) 191 (some (x5, upd r7 (Int32.toNatClampNeg (13 + p1)) p2))))))) else ((fX6_isMan p2 now_M).bind (fun r9 => if r9 = 0 then (some ((-1), now_M)) else (gin (13 + p1) 191 (nm (now_M (Int32.toNatClampNeg (13 + p1))) (fun x12 => if x12 = p2 then (some ((-2), now_M)) else ((fX6_note now_M).bind (fun r14 => gin (13 + p1) 191 (some (x12, upd r14 (Int32.toNatClampNeg (13 + p1)) p2)))))))))))
theorem in_X6_hang_X6 : ∀ w ∈ wsX60, w ∈ wsX6_hang := by decide +kernel
set_option maxHeartbeats 4000000 in
set_option maxRecDepth 100000 in
theorem ct_X6_hang {l : Launch} {D : va_G} {g : Nat → ClassId} {qa : Nat → Nat} {E0 : Nat → va_E} {p1 : Int32} {p2 : Int32} {ltr_M : Int32} {pos_M : Int32} {num_M : Int32} {isk_M : Int32} {bm_M : Int32} {bch_M : Int32} {lan_M : Nat → Int32} {siz_M : Nat → Int32} {itm_M : Nat → Int64} {tap_M : Nat → Int32} {now_M : Nat → Int32} {tri_M : Nat → Int32} {rd_M : Nat → Int32} {kp_M : Nat → Int32} {bes_M : Nat → Int32} (hG_M : Mo g qa E0 64 ltr_M pos_M num_M isk_M bm_M bch_M lan_M siz_M itm_M tap_M now_M tri_M rd_M kp_M bes_M) {R : (Int32 × (Nat → Int32))} (hf : fX6_hang p1 p2 now_M = some R) : MI l yX6_hang wsX6_hang 2 D g qa E0 [.ref (qa 64), .int p1, .int p2] R.1 (fun E => Mo g qa E 64 ltr_M pos_M num_M isk_M bm_M bch_M lan_M siz_M itm_M tap_M R.2 tri_M rd_M kp_M bes_M ∧ ∀ j, (j < 64 ∨ 74 ≤ j) → E j = E0 j) := by
  refine MI.mk (by decide) rfl (Nat.le_of_ble_eq_true rfl) ?_
  intro p e s m args below meth c ls Q X hret hP hS hl
  have hl : lv_has ls 4 [(0, .ref (qa 64)), (1, .int p1), (2, .int p2)] := hl
  have hfr : ∀ j, (j < 64 ∨ 74 ≤ j) → E0 j = E0 j := fun _ _ => rfl
  rw [fX6_hang] at hf
  refine lv_aload_n X.1 X.2.1 dX6_hang_0 rfl (lv_at hl 0 rfl) ?_
  refine lv_iload_n X.1 X.2.1 dX6_hang_1 rfl (lv_at hl 1 rfl) ?_
  obtain ⟨r1, hr1, hf⟩ := bd_of hf
  refine x_rdVi X hP hS hG_M.1 (by omega) rfl (n := 1) (As := [.int p1]) (ct_X6_isMedal hG_M hr1) gX6_hang_X6_isMedal rfl (by decide +kernel) ⟨by decide, by decide⟩ rfl hl.1 rfl (Nat.le_of_ble_eq_true rfl) dX6_hang_2 (fun H locs hP hS => ?_)
  refine lv_if_eq (tgt := 22) X.1 X.2.1 dX6_hang_5 (by decide) (fun c2 => ?_) (fun c2 => ?_)
  · have hf := ifp hf c2
    refine lv_iconst (v := (-1)) X.1 X.2.1 dX6_hang_22 (by decide) ?_
    obtain rfl := Option.some.inj hf
    exact hret _ _ _ _ _ _ dX6_hang_23 rfl rfl (⟨hG_M, hfr⟩) hP hS
  · have hf := ifn hf c2
    refine lv_iload_n X.1 X.2.1 dX6_hang_8 rfl (lv_at hl 2 rfl) ?_
    refine lv_bipush (v := (-4)) X.1 X.2.1 dX6_hang_9 (by decide) ?_
    refine lv_icmp_eq (tgt := 24) X.1 X.2.1 dX6_hang_11 (by decide) (fun c3 => ?_) (fun c3 => ?_)
    · have hf := ifp hf c3
      refine lv_aload_n X.1 X.2.1 dX6_hang_24 rfl (lv_at hl 0 rfl) ?_
      refine x_get X hP hG_M.1 (by omega) rfl in_X6_hang_X6 7 (by decide) (by decide +kernel) rfl rfl dX6_hang_25 ?_
      refine lv_bipush (v := 13) X.1 X.2.1 dX6_hang_28 (by decide) ?_
      refine lv_iload_n X.1 X.2.1 dX6_hang_30 rfl (lv_at hl 1 rfl) ?_
      refine lv_iadd X.1 X.2.1 dX6_hang_31 ?_
      obtain ⟨hi4, hf⟩ := gin_of hf
      refine x_iald X hP hG_M.2.2.2.2.2.1 (by omega) hi4 dX6_hang_32 ?_
      obtain ⟨x5, ex5, hf⟩ := nm_of hf
      refine lv_top_as ex5 ?_
      refine lv_istore_n (lv' := [(3, .int x5), (0, .ref (qa 64)), (1, .int p1), (2, .int p2)]) X.1 X.2.1 dX6_hang_33 rfl hl (by decide) rfl (fun ls hl => ?_)
      refine lv_iload_n X.1 X.2.1 dX6_hang_34 rfl (lv_at hl 0 rfl) ?_
      refine lv_iload_n X.1 X.2.1 dX6_hang_35 rfl (lv_at hl 3 rfl) ?_
      refine lv_icmp_ne (tgt := 42) X.1 X.2.1 dX6_hang_36 (by decide) (fun c6 => ?_) (fun c6 => ?_)
      · have hf := ifn hf c6
        refine lv_aload_n X.1 X.2.1 dX6_hang_42 rfl (lv_at hl 1 rfl) ?_
        obtain ⟨r7, hr7, hf⟩ := bd_of hf
        refine x_callVv X hP hS hG_M.1 (by omega) rfl (n := 0) (As := []) (ct_X6_note hG_M hr7) gX6_hang_X6_note rfl (by decide +kernel) ⟨by decide, by decide⟩ rfl hl.1 rfl (Nat.le_of_ble_eq_true rfl) dX6_hang_43 (fun E H locs hp hP hS => ?_)
        obtain ⟨hW_M, hk⟩ := hp
        have hG_M := hW_M
        have hfr : ∀ j, (j < 64 ∨ 74 ≤ j) → E j = E0 j := fun j o0 => (hk j (by omega)).trans (hfr j o0)
        refine lv_aload_n X.1 X.2.1 dX6_hang_46 rfl (lv_at hl 1 rfl) ?_
        refine x_get X hP hG_M.1 (by omega) rfl in_X6_hang_X6 7 (by decide) (by decide +kernel) rfl rfl dX6_hang_47 ?_
        refine lv_bipush (v := 13) X.1 X.2.1 dX6_hang_50 (by decide) ?_
        refine lv_iload_n X.1 X.2.1 dX6_hang_52 rfl (lv_at hl 2 rfl) ?_
        refine lv_iadd X.1 X.2.1 dX6_hang_53 ?_
        refine lv_iload_n X.1 X.2.1 dX6_hang_54 rfl (lv_at hl 3 rfl) ?_
        obtain ⟨hi8, hf⟩ := gin_of hf
        refine x_iast X hP hS hG_M.2.2.2.2.2.1 (by omega) hi8 dX6_hang_55 (fun E H locs h1 hk hP hS => ?_)
        have hG_M := Mo_set_5 hG_M h1 hk
        have hfr : ∀ j, (j < 64 ∨ 74 ≤ j) → E j = E0 j := fun j o0 => (hk j (by omega)).trans (hfr j o0)
        refine lv_iload_n X.1 X.2.1 dX6_hang_56 rfl (lv_at hl 0 rfl) ?_
        obtain rfl := Option.some.inj hf
        exact hret _ _ _ _ _ _ dX6_hang_57 rfl rfl (⟨hG_M, hfr⟩) hP hS
      · have hf := ifp hf c6
        refine lv_bipush (v := (-2)) X.1 X.2.1 dX6_hang_39 (by decide) ?_
        obtain rfl := Option.some.inj hf
        exact hret _ _ _ _ _ _ dX6_hang_41 rfl rfl (⟨hG_M, hfr⟩) hP hS
    · have hf := ifn hf c3
      refine lv_aload_n X.1 X.2.1 dX6_hang_14 rfl (lv_at hl 0 rfl) ?_
      refine lv_iload_n X.1 X.2.1 dX6_hang_15 rfl (lv_at hl 2 rfl) ?_
      obtain ⟨r9, hr9, hf⟩ := bd_of hf
      refine x_rdVi X hP hS hG_M.1 (by omega) rfl (n := 1) (As := [.int p2]) (ct_X6_isMan hG_M hr9) gX6_hang_X6_isMan rfl (by decide +kernel) ⟨by decide, by decide⟩ rfl hl.1 rfl (Nat.le_of_ble_eq_true rfl) dX6_hang_16 (fun H locs hP hS => ?_)
      refine lv_if_ne (tgt := 24) X.1 X.2.1 dX6_hang_19 (by decide) (fun c10 => ?_) (fun c10 => ?_)
      · have hf := ifn hf c10
        refine lv_aload_n X.1 X.2.1 dX6_hang_24 rfl (lv_at hl 0 rfl) ?_
        refine x_get X hP hG_M.1 (by omega) rfl in_X6_hang_X6 7 (by decide) (by decide +kernel) rfl rfl dX6_hang_25 ?_
        refine lv_bipush (v := 13) X.1 X.2.1 dX6_hang_28 (by decide) ?_
        refine lv_iload_n X.1 X.2.1 dX6_hang_30 rfl (lv_at hl 1 rfl) ?_
        refine lv_iadd X.1 X.2.1 dX6_hang_31 ?_
        obtain ⟨hi11, hf⟩ := gin_of hf
        refine x_iald X hP hG_M.2.2.2.2.2.1 (by omega) hi11 dX6_hang_32 ?_
        obtain ⟨x12, ex12, hf⟩ := nm_of hf
        refine lv_top_as ex12 ?_
        refine lv_istore_n (lv' := [(3, .int x12), (0, .ref (qa 64)), (1, .int p1), (2, .int p2)]) X.1 X.2.1 dX6_hang_33 rfl hl (by decide) rfl (fun ls hl => ?_)
        refine lv_iload_n X.1 X.2.1 dX6_hang_34 rfl (lv_at hl 0 rfl) ?_
        refine lv_iload_n X.1 X.2.1 dX6_hang_35 rfl (lv_at hl 3 rfl) ?_
        refine lv_icmp_ne (tgt := 42) X.1 X.2.1 dX6_hang_36 (by decide) (fun c13 => ?_) (fun c13 => ?_)
        · have hf := ifn hf c13
          refine lv_aload_n X.1 X.2.1 dX6_hang_42 rfl (lv_at hl 1 rfl) ?_
          obtain ⟨r14, hr14, hf⟩ := bd_of hf
          refine x_callVv X hP hS hG_M.1 (by omega) rfl (n := 0) (As := []) (ct_X6_note hG_M hr14) gX6_hang_X6_note rfl (by decide +kernel) ⟨by decide, by decide⟩ rfl hl.1 rfl (Nat.le_of_ble_eq_true rfl) dX6_hang_43 (fun E H locs hp hP hS => ?_)
          obtain ⟨hW_M, hk⟩ := hp
          have hG_M := hW_M
          have hfr : ∀ j, (j < 64 ∨ 74 ≤ j) → E j = E0 j := fun j o0 => (hk j (by omega)).trans (hfr j o0)
          refine lv_aload_n X.1 X.2.1 dX6_hang_46 rfl (lv_at hl 1 rfl) ?_
          refine x_get X hP hG_M.1 (by omega) rfl in_X6_hang_X6 7 (by decide) (by decide +kernel) rfl rfl dX6_hang_47 ?_
          refine lv_bipush (v := 13) X.1 X.2.1 dX6_hang_50 (by decide) ?_
          refine lv_iload_n X.1 X.2.1 dX6_hang_52 rfl (lv_at hl 2 rfl) ?_
          refine lv_iadd X.1 X.2.1 dX6_hang_53 ?_
          refine lv_iload_n X.1 X.2.1 dX6_hang_54 rfl (lv_at hl 3 rfl) ?_
          obtain ⟨hi15, hf⟩ := gin_of hf
          refine x_iast X hP hS hG_M.2.2.2.2.2.1 (by omega) hi15 dX6_hang_55 (fun E H locs h1 hk hP hS => ?_)
          have hG_M := Mo_set_5 hG_M h1 hk
          have hfr : ∀ j, (j < 64 ∨ 74 ≤ j) → E j = E0 j := fun j o0 => (hk j (by omega)).trans (hfr j o0)
          refine lv_iload_n X.1 X.2.1 dX6_hang_56 rfl (lv_at hl 0 rfl) ?_
          obtain rfl := Option.some.inj hf
          exact hret _ _ _ _ _ _ dX6_hang_57 rfl rfl (⟨hG_M, hfr⟩) hP hS
        · have hf := ifp hf c13
          refine lv_bipush (v := (-2)) X.1 X.2.1 dX6_hang_39 (by decide) ?_
          obtain rfl := Option.some.inj hf
          exact hret _ _ _ _ _ _ dX6_hang_41 rfl rfl (⟨hG_M, hfr⟩) hP hS
      · have hf := ifp hf c10
        refine lv_iconst (v := (-1)) X.1 X.2.1 dX6_hang_22 (by decide) ?_
        obtain rfl := Option.some.inj hf
        exact hret _ _ _ _ _ _ dX6_hang_23 rfl rfl (⟨hG_M, hfr⟩) hP hS
def fX6_image   (now_M : Nat → Int32) (kp_M : Nat → Int32) : Option (Int32 × Int32 × (Nat → Int32)) := (fX6_bring_d 0 0 191 191 now_M kp_M).bind (fun r1 => some (1, 1, r1))
theorem in_X6_image_X6 : ∀ w ∈ wsX60, w ∈ wsX6_image := by decide +kernel
set_option maxHeartbeats 4000000 in
set_option maxRecDepth 100000 in
theorem ct_X6_image {l : Launch} {D : va_G} {g : Nat → ClassId} {qa : Nat → Nat} {E0 : Nat → va_E} {ltr_M : Int32} {pos_M : Int32} {num_M : Int32} {isk_M : Int32} {bm_M : Int32} {bch_M : Int32} {lan_M : Nat → Int32} {siz_M : Nat → Int32} {itm_M : Nat → Int64} {tap_M : Nat → Int32} {now_M : Nat → Int32} {tri_M : Nat → Int32} {rd_M : Nat → Int32} {kp_M : Nat → Int32} {bes_M : Nat → Int32} (hG_M : Mo g qa E0 64 ltr_M pos_M num_M isk_M bm_M bch_M lan_M siz_M itm_M tap_M now_M tri_M rd_M kp_M bes_M) {R : (Int32 × Int32 × (Nat → Int32))} (hf : fX6_image now_M kp_M = some R) : MI l yX6_image wsX6_image 1 D g qa E0 [.ref (qa 64)] R.1 (fun E => Mo g qa E 64 ltr_M pos_M num_M R.2.1 bm_M bch_M lan_M siz_M itm_M tap_M now_M tri_M rd_M R.2.2 bes_M ∧ ∀ j, (j < 64 ∨ 74 ≤ j) → E j = E0 j) := by
  refine MI.mk (by decide) rfl (Nat.le_of_ble_eq_true rfl) ?_
  intro p e s m args below meth c ls Q X hret hP hS hl
  have hl : lv_has ls 1 [(0, .ref (qa 64))] := hl
  have hfr : ∀ j, (j < 64 ∨ 74 ≤ j) → E0 j = E0 j := fun _ _ => rfl
  rw [fX6_image] at hf
  refine lv_aload_n X.1 X.2.1 dX6_image_0 rfl (lv_at hl 0 rfl) ?_
  refine x_get X hP hG_M.1 (by omega) rfl in_X6_image_X6 7 (by decide) (by decide +kernel) rfl rfl dX6_image_1 ?_
  refine lv_iconst (v := 0) X.1 X.2.1 dX6_image_4 (by decide) ?_
  refine lv_aload_n X.1 X.2.1 dX6_image_5 rfl (lv_at hl 0 rfl) ?_
  refine x_get X hP hG_M.1 (by omega) rfl in_X6_image_X6 10 (by decide) (by decide +kernel) rfl rfl dX6_image_6 ?_
  refine lv_iconst (v := 0) X.1 X.2.1 dX6_image_9 (by decide) ?_
  refine lv_sipush (v := 191) X.1 X.2.1 dX6_image_10 (by decide) ?_
  obtain ⟨r1, hr1, hf⟩ := bd_of hf
  refine x_callSv X hP hS (index := 114) (n := 5) (As := [.ref (qa (64 + 5)), .int 0, .ref (qa (64 + 8)), .int 0, .int 191]) (ct_X6_bring_d (by omega) hG_M.2.2.2.2.2.1 (by omega) hG_M.2.2.2.2.2.2.2.2.1 (by omega) hr1) ggX6_image_X6_bring (by decide +kernel) (by decide +kernel) (by decide +kernel) rfl (by decide +kernel) ⟨by decide, by decide⟩ rfl hl.1 rfl (Nat.le_of_ble_eq_true rfl) dX6_image_13 (fun E H locs hp hP hS => ?_)
  obtain ⟨hW_d, hk⟩ := hp
  have hG_M := Mo_set_8 hG_M hW_d hk
  have hfr : ∀ j, (j < 64 ∨ 74 ≤ j) → E j = E0 j := fun j o0 => (hk j (by omega)).trans (hfr j o0)
  refine lv_aload_n X.1 X.2.1 dX6_image_16 rfl (lv_at hl 0 rfl) ?_
  refine lv_iconst (v := 1) X.1 X.2.1 dX6_image_17 (by decide) ?_
  refine x_put (ty := .boolean) X hP hS hG_M.1 (by omega) rfl in_X6_image_X6 tyX6 tyX6_ok nmX6 11 (by decide) (by decide +kernel) rfl rfl (by decide +kernel) rfl rfl (Nat.le_of_ble_eq_true rfl) dX6_image_18 (fun E H locs h1 hk hP hS => ?_)
  have hG_M := Mo_set_0 hG_M h1 hk
  have hfr : ∀ j, (j < 64 ∨ 74 ≤ j) → E j = E0 j := fun j o0 => (hk j (by omega)).trans (hfr j o0)
  refine lv_iconst (v := 1) X.1 X.2.1 dX6_image_21 (by decide) ?_
  obtain rfl := Option.some.inj hf
  exact hret _ _ _ _ _ _ dX6_image_22 rfl rfl (⟨hG_M, hfr⟩) hP hS
def bX6_peek_0 (ltr_M : Int32) (tap_M : Nat → Int32) (K1 : (Int32) → Option (Int32 × Int32)) : (Int32) → Option (Int32 × Int32)
  | pos_M_1 => if ltr_M ≤ pos_M_1 then (some (0, pos_M_1)) else (gin pos_M_1 90 (if (tap_M (Int32.toNatClampNeg pos_M_1)) = 32 then (K1 (pos_M_1 + 1)) else (gin pos_M_1 90 (some (tap_M (Int32.toNatClampNeg pos_M_1), pos_M_1)))))
def fX6_peek   (ltr_M : Int32) (pos_M : Int32) (tap_M : Nat → Int32) : Option (Int32 × Int32) := lp (bX6_peek_0 ltr_M tap_M) FU pos_M
theorem in_X6_peek_X6 : ∀ w ∈ wsX60, w ∈ wsX6_peek := by decide +kernel
set_option maxHeartbeats 4000000 in
set_option maxRecDepth 100000 in
theorem ct_X6_peek {l : Launch} {D : va_G} {g : Nat → ClassId} {qa : Nat → Nat} {E0 : Nat → va_E} {ltr_M : Int32} {pos_M : Int32} {num_M : Int32} {isk_M : Int32} {bm_M : Int32} {bch_M : Int32} {lan_M : Nat → Int32} {siz_M : Nat → Int32} {itm_M : Nat → Int64} {tap_M : Nat → Int32} {now_M : Nat → Int32} {tri_M : Nat → Int32} {rd_M : Nat → Int32} {kp_M : Nat → Int32} {bes_M : Nat → Int32} (hG_M : Mo g qa E0 64 ltr_M pos_M num_M isk_M bm_M bch_M lan_M siz_M itm_M tap_M now_M tri_M rd_M kp_M bes_M) {R : (Int32 × Int32)} (hf : fX6_peek ltr_M pos_M tap_M = some R) : MI l yX6_peek wsX6_peek 0 D g qa E0 [.ref (qa 64)] R.1 (fun E => Mo g qa E 64 ltr_M R.2 num_M isk_M bm_M bch_M lan_M siz_M itm_M tap_M now_M tri_M rd_M kp_M bes_M ∧ ∀ j, (j < 64 ∨ 74 ≤ j) → E j = E0 j) := by
  refine MI.mk (by decide) rfl (Nat.le_of_ble_eq_true rfl) ?_
  intro p e s m args below meth c ls Q X hret hP hS hl
  have hl : lv_has ls 1 [(0, .ref (qa 64))] := hl
  have hfr : ∀ j, (j < 64 ∨ 74 ≤ j) → E0 j = E0 j := fun _ _ => rfl
  rw [fX6_peek] at hf
  have lp1 : ∀ (n1 : Nat) (pos_M_1 : Int32) (E : Nat → va_E) (H : Heap) (locs : List Loc) (ls : Array Slot), lp (bX6_peek_0 ltr_M tap_M) n1 pos_M_1 = some R → va_P D vwCl (WD qa E) H → va_S (gA qa s.heap.size) s.heap H locs → Mo g qa E 64 ltr_M pos_M_1 num_M isk_M bm_M bch_M lan_M siz_M itm_M tap_M now_M tri_M rd_M kp_M bes_M → (∀ j, (j < 64 ∨ 74 ≤ j) → E j = E0 j) → lv_has ls 1 [(0, .ref (qa 64))] → W p l e (rmf 0) s m args below meth c H locs 0 0 Q (F0 m 0 ls []) := by
    intro n1
    induction n1 with
    | zero =>
      intro pos_M_1 E H locs ls hf
      exact absurd hf (by intro h; cases h)
    | succ n1 ih1 =>
      intro pos_M_1 E H locs ls hf hP hS hG_M hfr hl
      have hf : bX6_peek_0 ltr_M tap_M (lp (bX6_peek_0 ltr_M tap_M) n1) pos_M_1 = some R := hf
      rw [bX6_peek_0] at hf
      refine lv_aload_n X.1 X.2.1 dX6_peek_0 rfl (lv_at hl 0 rfl) ?_
      refine x_get X hP hG_M.1 (by omega) rfl in_X6_peek_X6 5 (by decide) (by decide +kernel) rfl rfl dX6_peek_1 ?_
      refine lv_aload_n X.1 X.2.1 dX6_peek_4 rfl (lv_at hl 0 rfl) ?_
      refine x_get X hP hG_M.1 (by omega) rfl in_X6_peek_X6 3 (by decide) (by decide +kernel) rfl rfl dX6_peek_5 ?_
      refine lv_icmp_ge (tgt := 38) X.1 X.2.1 dX6_peek_8 (by decide) (fun c2 => ?_) (fun c2 => ?_)
      · have hf := ifp hf c2
        refine lv_aload_n X.1 X.2.1 dX6_peek_38 rfl (lv_at hl 0 rfl) ?_
        refine x_get X hP hG_M.1 (by omega) rfl in_X6_peek_X6 5 (by decide) (by decide +kernel) rfl rfl dX6_peek_39 ?_
        refine lv_aload_n X.1 X.2.1 dX6_peek_42 rfl (lv_at hl 0 rfl) ?_
        refine x_get X hP hG_M.1 (by omega) rfl in_X6_peek_X6 3 (by decide) (by decide +kernel) rfl rfl dX6_peek_43 ?_
        refine lv_icmp_ge (tgt := 61) X.1 X.2.1 dX6_peek_46 (by decide) (fun _ => ?_) (fun q => absurd c2 q)
        refine lv_iconst (v := 0) X.1 X.2.1 dX6_peek_61 (by decide) ?_
        obtain rfl := Option.some.inj hf
        exact hret _ _ _ _ _ _ dX6_peek_62 rfl rfl (⟨hG_M, hfr⟩) hP hS
      · have hf := ifn hf c2
        refine lv_aload_n X.1 X.2.1 dX6_peek_11 rfl (lv_at hl 0 rfl) ?_
        refine x_get X hP hG_M.1 (by omega) rfl in_X6_peek_X6 4 (by decide) (by decide +kernel) rfl rfl dX6_peek_12 ?_
        refine lv_aload_n X.1 X.2.1 dX6_peek_15 rfl (lv_at hl 0 rfl) ?_
        refine x_get X hP hG_M.1 (by omega) rfl in_X6_peek_X6 5 (by decide) (by decide +kernel) rfl rfl dX6_peek_16 ?_
        obtain ⟨hi3, hf⟩ := gin_of hf
        refine x_iald X hP hG_M.2.2.2.2.1 (by omega) hi3 dX6_peek_19 ?_
        refine lv_bipush (v := 32) X.1 X.2.1 dX6_peek_20 (by decide) ?_
        refine lv_icmp_ne (tgt := 38) X.1 X.2.1 dX6_peek_22 (by decide) (fun c4 => ?_) (fun c4 => ?_)
        · have hf := ifn hf c4
          refine lv_aload_n X.1 X.2.1 dX6_peek_38 rfl (lv_at hl 0 rfl) ?_
          refine x_get X hP hG_M.1 (by omega) rfl in_X6_peek_X6 5 (by decide) (by decide +kernel) rfl rfl dX6_peek_39 ?_
          refine lv_aload_n X.1 X.2.1 dX6_peek_42 rfl (lv_at hl 0 rfl) ?_
          refine x_get X hP hG_M.1 (by omega) rfl in_X6_peek_X6 3 (by decide) (by decide +kernel) rfl rfl dX6_peek_43 ?_
          refine lv_icmp_ge (tgt := 61) X.1 X.2.1 dX6_peek_46 (by decide) (fun q => absurd q c2) (fun _ => ?_)
          refine lv_aload_n X.1 X.2.1 dX6_peek_49 rfl (lv_at hl 0 rfl) ?_
          refine x_get X hP hG_M.1 (by omega) rfl in_X6_peek_X6 4 (by decide) (by decide +kernel) rfl rfl dX6_peek_50 ?_
          refine lv_aload_n X.1 X.2.1 dX6_peek_53 rfl (lv_at hl 0 rfl) ?_
          refine x_get X hP hG_M.1 (by omega) rfl in_X6_peek_X6 5 (by decide) (by decide +kernel) rfl rfl dX6_peek_54 ?_
          obtain ⟨hi5, hf⟩ := gin_of hf
          refine x_iald X hP hG_M.2.2.2.2.1 (by omega) hi5 dX6_peek_57 ?_
          refine lv_goto (tgt := 62) X.1 X.2.1 dX6_peek_58 (by decide) ?_
          obtain rfl := Option.some.inj hf
          exact hret _ _ _ _ _ _ dX6_peek_62 rfl rfl (⟨hG_M, hfr⟩) hP hS
        · have hf := ifp hf c4
          refine lv_aload_n X.1 X.2.1 dX6_peek_25 rfl (lv_at hl 0 rfl) ?_
          refine lv_dup X.1 X.2.1 dX6_peek_26 rfl ?_
          refine x_get X hP hG_M.1 (by omega) rfl in_X6_peek_X6 5 (by decide) (by decide +kernel) rfl rfl dX6_peek_27 ?_
          refine lv_iconst (v := 1) X.1 X.2.1 dX6_peek_30 (by decide) ?_
          refine lv_iadd X.1 X.2.1 dX6_peek_31 ?_
          refine x_put (ty := .int) X hP hS hG_M.1 (by omega) rfl in_X6_peek_X6 tyX6 tyX6_ok nmX6 5 (by decide) (by decide +kernel) rfl rfl (by decide +kernel) rfl rfl (Nat.le_of_ble_eq_true rfl) dX6_peek_32 (fun E H locs h1 hk hP hS => ?_)
          have hG_M := Mo_set_0 hG_M h1 hk
          have hfr : ∀ j, (j < 64 ∨ 74 ≤ j) → E j = E0 j := fun j o0 => (hk j (by omega)).trans (hfr j o0)
          refine lv_goto (tgt := 0) X.1 X.2.1 dX6_peek_35 (by decide) ?_
          exact ih1 (pos_M_1 + 1) _ _ _ _ hf hP hS hG_M hfr (lv_sub hl [0] rfl)
  exact lp1 FU pos_M _ _ _ _ hf hP hS hG_M hfr (lv_sub hl [0] rfl)
def fX6_isDigit (p1 : Int32) (p2 : Int32)  (ltr_M : Int32) (pos_M : Int32) (tap_M : Nat → Int32) : Option (Int32 × Int32 × Int32) := (fX6_peek ltr_M pos_M tap_M).bind (fun r1 => (fX6_in (r1.1 - 48) p1 p2).bind (fun r2 => if r2 = 0 then (some (0, r1.2, r1.1 - 48)) else (some (1, r1.2 + 1, r1.1 - 48))))
theorem in_X6_isDigit_X6 : ∀ w ∈ wsX60, w ∈ wsX6_isDigit := by decide +kernel
set_option maxHeartbeats 4000000 in
set_option maxRecDepth 100000 in
theorem ct_X6_isDigit {l : Launch} {D : va_G} {g : Nat → ClassId} {qa : Nat → Nat} {E0 : Nat → va_E} {p1 : Int32} {p2 : Int32} {ltr_M : Int32} {pos_M : Int32} {num_M : Int32} {isk_M : Int32} {bm_M : Int32} {bch_M : Int32} {lan_M : Nat → Int32} {siz_M : Nat → Int32} {itm_M : Nat → Int64} {tap_M : Nat → Int32} {now_M : Nat → Int32} {tri_M : Nat → Int32} {rd_M : Nat → Int32} {kp_M : Nat → Int32} {bes_M : Nat → Int32} (hG_M : Mo g qa E0 64 ltr_M pos_M num_M isk_M bm_M bch_M lan_M siz_M itm_M tap_M now_M tri_M rd_M kp_M bes_M) {R : (Int32 × Int32 × Int32)} (hf : fX6_isDigit p1 p2 ltr_M pos_M tap_M = some R) : MI l yX6_isDigit wsX6_isDigit 1 D g qa E0 [.ref (qa 64), .int p1, .int p2] R.1 (fun E => Mo g qa E 64 ltr_M R.2.1 R.2.2 isk_M bm_M bch_M lan_M siz_M itm_M tap_M now_M tri_M rd_M kp_M bes_M ∧ ∀ j, (j < 64 ∨ 74 ≤ j) → E j = E0 j) := by
  refine MI.mk (by decide) rfl (Nat.le_of_ble_eq_true rfl) ?_
  intro p e s m args below meth c ls Q X hret hP hS hl
  have hl : lv_has ls 3 [(0, .ref (qa 64)), (1, .int p1), (2, .int p2)] := hl
  have hfr : ∀ j, (j < 64 ∨ 74 ≤ j) → E0 j = E0 j := fun _ _ => rfl
  rw [fX6_isDigit] at hf
  refine lv_aload_n X.1 X.2.1 dX6_isDigit_0 rfl (lv_at hl 0 rfl) ?_
  refine lv_aload_n X.1 X.2.1 dX6_isDigit_1 rfl (lv_at hl 0 rfl) ?_
  obtain ⟨r1, hr1, hf⟩ := bd_of hf
  refine x_callVi X hP hS hG_M.1 (by omega) rfl (n := 0) (As := []) (ct_X6_peek hG_M hr1) gX6_isDigit_X6_peek rfl (by decide +kernel) ⟨by decide, by decide⟩ rfl hl.1 rfl (Nat.le_of_ble_eq_true rfl) dX6_isDigit_2 (fun E H locs hp hP hS => ?_)
  obtain ⟨hW_M, hk⟩ := hp
  have hG_M := hW_M
  have hfr : ∀ j, (j < 64 ∨ 74 ≤ j) → E j = E0 j := fun j o0 => (hk j (by omega)).trans (hfr j o0)
  refine lv_bipush (v := 48) X.1 X.2.1 dX6_isDigit_5 (by decide) ?_
  refine lv_isub X.1 X.2.1 dX6_isDigit_7 ?_
  refine x_put (ty := .int) X hP hS hG_M.1 (by omega) rfl in_X6_isDigit_X6 tyX6 tyX6_ok nmX6 6 (by decide) (by decide +kernel) rfl rfl (by decide +kernel) rfl rfl (Nat.le_of_ble_eq_true rfl) dX6_isDigit_8 (fun E H locs h1 hk hP hS => ?_)
  have hG_M := Mo_set_0 hG_M h1 hk
  have hfr : ∀ j, (j < 64 ∨ 74 ≤ j) → E j = E0 j := fun j o0 => (hk j (by omega)).trans (hfr j o0)
  refine lv_aload_n X.1 X.2.1 dX6_isDigit_11 rfl (lv_at hl 0 rfl) ?_
  refine x_get X hP hG_M.1 (by omega) rfl in_X6_isDigit_X6 6 (by decide) (by decide +kernel) rfl rfl dX6_isDigit_12 ?_
  refine lv_iload_n X.1 X.2.1 dX6_isDigit_15 rfl (lv_at hl 1 rfl) ?_
  refine lv_iload_n X.1 X.2.1 dX6_isDigit_16 rfl (lv_at hl 2 rfl) ?_
  obtain ⟨r2, hr2, hf⟩ := bd_of hf
  refine x_rdSi X hP hS (index := 38) (n := 3) (As := [.int (r1.1 - 48), .int p1, .int p2]) (ct_X6_in  hr2) ggX6_isDigit_X6_in (by decide +kernel) (by decide +kernel) (by decide +kernel) rfl (by decide +kernel) ⟨by decide, by decide⟩ rfl hl.1 rfl (Nat.le_of_ble_eq_true rfl) dX6_isDigit_17 (fun H locs hP hS => ?_)
  refine lv_if_ne (tgt := 25) X.1 X.2.1 dX6_isDigit_20 (by decide) (fun c3 => ?_) (fun c3 => ?_)
  · have hf := ifn hf c3
    refine lv_aload_n X.1 X.2.1 dX6_isDigit_25 rfl (lv_at hl 0 rfl) ?_
    refine lv_dup X.1 X.2.1 dX6_isDigit_26 rfl ?_
    refine x_get X hP hG_M.1 (by omega) rfl in_X6_isDigit_X6 5 (by decide) (by decide +kernel) rfl rfl dX6_isDigit_27 ?_
    refine lv_iconst (v := 1) X.1 X.2.1 dX6_isDigit_30 (by decide) ?_
    refine lv_iadd X.1 X.2.1 dX6_isDigit_31 ?_
    refine x_put (ty := .int) X hP hS hG_M.1 (by omega) rfl in_X6_isDigit_X6 tyX6 tyX6_ok nmX6 5 (by decide) (by decide +kernel) rfl rfl (by decide +kernel) rfl rfl (Nat.le_of_ble_eq_true rfl) dX6_isDigit_32 (fun E H locs h1 hk hP hS => ?_)
    have hG_M := Mo_set_0 hG_M h1 hk
    have hfr : ∀ j, (j < 64 ∨ 74 ≤ j) → E j = E0 j := fun j o0 => (hk j (by omega)).trans (hfr j o0)
    refine lv_iconst (v := 1) X.1 X.2.1 dX6_isDigit_35 (by decide) ?_
    obtain rfl := Option.some.inj hf
    exact hret _ _ _ _ _ _ dX6_isDigit_36 rfl rfl (⟨hG_M, hfr⟩) hP hS
  · have hf := ifp hf c3
    refine lv_iconst (v := 0) X.1 X.2.1 dX6_isDigit_23 (by decide) ?_
    obtain rfl := Option.some.inj hf
    exact hret _ _ _ _ _ _ dX6_isDigit_24 rfl rfl (⟨hG_M, hfr⟩) hP hS
def fX6_isNumber (p1 : Int32) (p2 : Int32)  (ltr_M : Int32) (pos_M : Int32) (tap_M : Nat → Int32) : Option (Int32 × Int32 × Int32) := (fX6_isDigit 0 9 ltr_M pos_M tap_M).bind (fun r1 => if r1.1 = 0 then (some (0, r1.2.1, r1.2.2)) else (nm (r1.2.1 - 1) (fun x3 => nm (r1.2.2) (fun x4 => if ltr_M ≤ r1.2.1 then ((fX6_in x4 p1 p2).bind (fun r6 => if r6 = 0 then (some (0, x3, x4)) else (if r1.2.1 = ltr_M then (some (1, r1.2.1, x4)) else (gin r1.2.1 90 ((fX6_in (tap_M (Int32.toNatClampNeg r1.2.1)) 48 57).bind (fun r10 => if r10 = 0 then (some (1, r1.2.1, x4)) else (some (0, r1.2.1, x4)))))))) else (gin r1.2.1 90 ((fX6_in (tap_M (Int32.toNatClampNeg r1.2.1)) 48 57).bind (fun r13 => if r13 = 0 then ((fX6_in x4 p1 p2).bind (fun r15 => if r15 = 0 then (some (0, x3, x4)) else (if r1.2.1 = ltr_M then (some (1, r1.2.1, x4)) else (gin r1.2.1 90 ((fX6_in (tap_M (Int32.toNatClampNeg r1.2.1)) 48 57).bind (fun r19 => if r19 = 0 then (some (1, r1.2.1, x4)) else (some (0, r1.2.1, x4)))))))) else (gin r1.2.1 90 (nm (((10 * x4) + (tap_M (Int32.toNatClampNeg r1.2.1))) - 48) (fun x22 => (fX6_in x22 p1 p2).bind (fun r23 => if r23 = 0 then (some (0, x3, x22)) else (if (r1.2.1 + 1) = ltr_M then (some (1, r1.2.1 + 1, x22)) else (gin (r1.2.1 + 1) 90 ((fX6_in (tap_M (Int32.toNatClampNeg (r1.2.1 + 1))) 48 57).bind (fun r27 => if r27 = 0 then (some (1, r1.2.1 + 1, x22)) else (some (0, r1.2.1 + 1, x22)))))))))))))))))
theorem in_X6_isNumber_X6 : ∀ w ∈ wsX60, w ∈ wsX6_isNumber := by decide +kernel
set_option maxHeartbeats 4000000 in
set_option maxRecDepth 100000 in
theorem ct_X6_isNumber {l : Launch} {D : va_G} {g : Nat → ClassId} {qa : Nat → Nat} {E0 : Nat → va_E} {p1 : Int32} {p2 : Int32} {ltr_M : Int32} {pos_M : Int32} {num_M : Int32} {isk_M : Int32} {bm_M : Int32} {bch_M : Int32} {lan_M : Nat → Int32} {siz_M : Nat → Int32} {itm_M : Nat → Int64} {tap_M : Nat → Int32} {now_M : Nat → Int32} {tri_M : Nat → Int32} {rd_M : Nat → Int32} {kp_M : Nat → Int32} {bes_M : Nat → Int32} (hG_M : Mo g qa E0 64 ltr_M pos_M num_M isk_M bm_M bch_M lan_M siz_M itm_M tap_M now_M tri_M rd_M kp_M bes_M) {R : (Int32 × Int32 × Int32)} (hf : fX6_isNumber p1 p2 ltr_M pos_M tap_M = some R) : MI l yX6_isNumber wsX6_isNumber 2 D g qa E0 [.ref (qa 64), .int p1, .int p2] R.1 (fun E => Mo g qa E 64 ltr_M R.2.1 R.2.2 isk_M bm_M bch_M lan_M siz_M itm_M tap_M now_M tri_M rd_M kp_M bes_M ∧ ∀ j, (j < 64 ∨ 74 ≤ j) → E j = E0 j) := by
  refine MI.mk (by decide) rfl (Nat.le_of_ble_eq_true rfl) ?_
  intro p e s m args below meth c ls Q X hret hP hS hl
  have hl : lv_has ls 5 [(0, .ref (qa 64)), (1, .int p1), (2, .int p2)] := hl
  have hfr : ∀ j, (j < 64 ∨ 74 ≤ j) → E0 j = E0 j := fun _ _ => rfl
  rw [fX6_isNumber] at hf
  refine lv_aload_n X.1 X.2.1 dX6_isNumber_0 rfl (lv_at hl 0 rfl) ?_
  refine lv_iconst (v := 0) X.1 X.2.1 dX6_isNumber_1 (by decide) ?_
  refine lv_bipush (v := 9) X.1 X.2.1 dX6_isNumber_2 (by decide) ?_
  obtain ⟨r1, hr1, hf⟩ := bd_of hf
  refine x_callVi X hP hS hG_M.1 (by omega) rfl (n := 2) (As := [.int 0, .int 9]) (ct_X6_isDigit hG_M hr1) gX6_isNumber_X6_isDigit rfl (by decide +kernel) ⟨by decide, by decide⟩ rfl hl.1 rfl (Nat.le_of_ble_eq_true rfl) dX6_isNumber_4 (fun E H locs hp hP hS => ?_)
  obtain ⟨hW_M, hk⟩ := hp
  have hG_M := hW_M
  have hfr : ∀ j, (j < 64 ∨ 74 ≤ j) → E j = E0 j := fun j o0 => (hk j (by omega)).trans (hfr j o0)
  refine lv_if_ne (tgt := 12) X.1 X.2.1 dX6_isNumber_7 (by decide) (fun c2 => ?_) (fun c2 => ?_)
  · have hf := ifn hf c2
    refine lv_aload_n X.1 X.2.1 dX6_isNumber_12 rfl (lv_at hl 0 rfl) ?_
    refine x_get X hP hG_M.1 (by omega) rfl in_X6_isNumber_X6 5 (by decide) (by decide +kernel) rfl rfl dX6_isNumber_13 ?_
    refine lv_iconst (v := 1) X.1 X.2.1 dX6_isNumber_16 (by decide) ?_
    refine lv_isub X.1 X.2.1 dX6_isNumber_17 ?_
    obtain ⟨x3, ex3, hf⟩ := nm_of hf
    refine lv_top_as ex3 ?_
    refine lv_istore_n (lv' := [(3, .int x3), (0, .ref (qa 64)), (1, .int p1), (2, .int p2)]) X.1 X.2.1 dX6_isNumber_18 rfl hl (by decide) rfl (fun ls hl => ?_)
    refine lv_aload_n X.1 X.2.1 dX6_isNumber_19 rfl (lv_at hl 1 rfl) ?_
    refine x_get X hP hG_M.1 (by omega) rfl in_X6_isNumber_X6 6 (by decide) (by decide +kernel) rfl rfl dX6_isNumber_20 ?_
    obtain ⟨x4, ex4, hf⟩ := nm_of hf
    refine lv_top_as ex4 ?_
    refine lv_istore (lv' := [(4, .int x4), (3, .int x3), (0, .ref (qa 64)), (1, .int p1), (2, .int p2)]) X.1 X.2.1 dX6_isNumber_23 hl (by decide) rfl (fun ls hl => ?_)
    refine lv_aload_n X.1 X.2.1 dX6_isNumber_25 rfl (lv_at hl 2 rfl) ?_
    refine x_get X hP hG_M.1 (by omega) rfl in_X6_isNumber_X6 5 (by decide) (by decide +kernel) rfl rfl dX6_isNumber_26 ?_
    refine lv_aload_n X.1 X.2.1 dX6_isNumber_29 rfl (lv_at hl 2 rfl) ?_
    refine x_get X hP hG_M.1 (by omega) rfl in_X6_isNumber_X6 3 (by decide) (by decide +kernel) rfl rfl dX6_isNumber_30 ?_
    refine lv_icmp_ge (tgt := 85) X.1 X.2.1 dX6_isNumber_33 (by decide) (fun c5 => ?_) (fun c5 => ?_)
    · have hf := ifp hf c5
      refine lv_aload_n X.1 X.2.1 dX6_isNumber_85 rfl (lv_at hl 2 rfl) ?_
      refine lv_iload X.1 X.2.1 dX6_isNumber_86 (lv_at hl 0 rfl) ?_
      refine x_put (ty := .int) X hP hS hG_M.1 (by omega) rfl in_X6_isNumber_X6 tyX6 tyX6_ok nmX6 6 (by decide) (by decide +kernel) rfl rfl (by decide +kernel) rfl rfl (Nat.le_of_ble_eq_true rfl) dX6_isNumber_88 (fun E H locs h1 hk hP hS => ?_)
      have hG_M := Mo_set_0 hG_M h1 hk
      have hfr : ∀ j, (j < 64 ∨ 74 ≤ j) → E j = E0 j := fun j o0 => (hk j (by omega)).trans (hfr j o0)
      refine lv_iload X.1 X.2.1 dX6_isNumber_91 (lv_at hl 0 rfl) ?_
      refine lv_iload_n X.1 X.2.1 dX6_isNumber_93 rfl (lv_at hl 3 rfl) ?_
      refine lv_iload_n X.1 X.2.1 dX6_isNumber_94 rfl (lv_at hl 4 rfl) ?_
      obtain ⟨r6, hr6, hf⟩ := bd_of hf
      refine x_rdSi X hP hS (index := 38) (n := 3) (As := [.int x4, .int p1, .int p2]) (ct_X6_in  hr6) ggX6_isNumber_X6_in (by decide +kernel) (by decide +kernel) (by decide +kernel) rfl (by decide +kernel) ⟨by decide, by decide⟩ rfl hl.1 rfl (Nat.le_of_ble_eq_true rfl) dX6_isNumber_95 (fun H locs hP hS => ?_)
      refine lv_if_ne (tgt := 108) X.1 X.2.1 dX6_isNumber_98 (by decide) (fun c7 => ?_) (fun c7 => ?_)
      · have hf := ifn hf c7
        refine lv_aload_n X.1 X.2.1 dX6_isNumber_108 rfl (lv_at hl 2 rfl) ?_
        refine x_get X hP hG_M.1 (by omega) rfl in_X6_isNumber_X6 5 (by decide) (by decide +kernel) rfl rfl dX6_isNumber_109 ?_
        refine lv_aload_n X.1 X.2.1 dX6_isNumber_112 rfl (lv_at hl 2 rfl) ?_
        refine x_get X hP hG_M.1 (by omega) rfl in_X6_isNumber_X6 3 (by decide) (by decide +kernel) rfl rfl dX6_isNumber_113 ?_
        refine lv_icmp_eq (tgt := 138) X.1 X.2.1 dX6_isNumber_116 (by decide) (fun c8 => ?_) (fun c8 => ?_)
        · have hf := ifp hf c8
          refine lv_iconst (v := 1) X.1 X.2.1 dX6_isNumber_138 (by decide) ?_
          refine lv_goto (tgt := 143) X.1 X.2.1 dX6_isNumber_139 (by decide) ?_
          obtain rfl := Option.some.inj hf
          exact hret _ _ _ _ _ _ dX6_isNumber_143 rfl rfl (⟨hG_M, hfr⟩) hP hS
        · have hf := ifn hf c8
          refine lv_aload_n X.1 X.2.1 dX6_isNumber_119 rfl (lv_at hl 2 rfl) ?_
          refine x_get X hP hG_M.1 (by omega) rfl in_X6_isNumber_X6 4 (by decide) (by decide +kernel) rfl rfl dX6_isNumber_120 ?_
          refine lv_aload_n X.1 X.2.1 dX6_isNumber_123 rfl (lv_at hl 2 rfl) ?_
          refine x_get X hP hG_M.1 (by omega) rfl in_X6_isNumber_X6 5 (by decide) (by decide +kernel) rfl rfl dX6_isNumber_124 ?_
          obtain ⟨hi9, hf⟩ := gin_of hf
          refine x_iald X hP hG_M.2.2.2.2.1 (by omega) hi9 dX6_isNumber_127 ?_
          refine lv_bipush (v := 48) X.1 X.2.1 dX6_isNumber_128 (by decide) ?_
          refine lv_bipush (v := 57) X.1 X.2.1 dX6_isNumber_130 (by decide) ?_
          obtain ⟨r10, hr10, hf⟩ := bd_of hf
          refine x_rdSi X hP hS (index := 38) (n := 3) (As := [.int (tap_M (Int32.toNatClampNeg r1.2.1)), .int 48, .int 57]) (ct_X6_in  hr10) ggX6_isNumber_X6_in (by decide +kernel) (by decide +kernel) (by decide +kernel) rfl (by decide +kernel) ⟨by decide, by decide⟩ rfl hl.1 rfl (Nat.le_of_ble_eq_true rfl) dX6_isNumber_132 (fun H locs hP hS => ?_)
          refine lv_if_ne (tgt := 142) X.1 X.2.1 dX6_isNumber_135 (by decide) (fun c11 => ?_) (fun c11 => ?_)
          · have hf := ifn hf c11
            refine lv_iconst (v := 0) X.1 X.2.1 dX6_isNumber_142 (by decide) ?_
            obtain rfl := Option.some.inj hf
            exact hret _ _ _ _ _ _ dX6_isNumber_143 rfl rfl (⟨hG_M, hfr⟩) hP hS
          · have hf := ifp hf c11
            refine lv_iconst (v := 1) X.1 X.2.1 dX6_isNumber_138 (by decide) ?_
            refine lv_goto (tgt := 143) X.1 X.2.1 dX6_isNumber_139 (by decide) ?_
            obtain rfl := Option.some.inj hf
            exact hret _ _ _ _ _ _ dX6_isNumber_143 rfl rfl (⟨hG_M, hfr⟩) hP hS
      · have hf := ifp hf c7
        refine lv_aload_n X.1 X.2.1 dX6_isNumber_101 rfl (lv_at hl 2 rfl) ?_
        refine lv_iload_n X.1 X.2.1 dX6_isNumber_102 rfl (lv_at hl 1 rfl) ?_
        refine x_put (ty := .int) X hP hS hG_M.1 (by omega) rfl in_X6_isNumber_X6 tyX6 tyX6_ok nmX6 5 (by decide) (by decide +kernel) rfl rfl (by decide +kernel) rfl rfl (Nat.le_of_ble_eq_true rfl) dX6_isNumber_103 (fun E H locs h1 hk hP hS => ?_)
        have hG_M := Mo_set_0 hG_M h1 hk
        have hfr : ∀ j, (j < 64 ∨ 74 ≤ j) → E j = E0 j := fun j o0 => (hk j (by omega)).trans (hfr j o0)
        refine lv_iconst (v := 0) X.1 X.2.1 dX6_isNumber_106 (by decide) ?_
        obtain rfl := Option.some.inj hf
        exact hret _ _ _ _ _ _ dX6_isNumber_107 rfl rfl (⟨hG_M, hfr⟩) hP hS
    · have hf := ifn hf c5
      refine lv_aload_n X.1 X.2.1 dX6_isNumber_36 rfl (lv_at hl 2 rfl) ?_
      refine x_get X hP hG_M.1 (by omega) rfl in_X6_isNumber_X6 4 (by decide) (by decide +kernel) rfl rfl dX6_isNumber_37 ?_
      refine lv_aload_n X.1 X.2.1 dX6_isNumber_40 rfl (lv_at hl 2 rfl) ?_
      refine x_get X hP hG_M.1 (by omega) rfl in_X6_isNumber_X6 5 (by decide) (by decide +kernel) rfl rfl dX6_isNumber_41 ?_
      obtain ⟨hi12, hf⟩ := gin_of hf
      refine x_iald X hP hG_M.2.2.2.2.1 (by omega) hi12 dX6_isNumber_44 ?_
      refine lv_bipush (v := 48) X.1 X.2.1 dX6_isNumber_45 (by decide) ?_
      refine lv_bipush (v := 57) X.1 X.2.1 dX6_isNumber_47 (by decide) ?_
      obtain ⟨r13, hr13, hf⟩ := bd_of hf
      refine x_rdSi X hP hS (index := 38) (n := 3) (As := [.int (tap_M (Int32.toNatClampNeg r1.2.1)), .int 48, .int 57]) (ct_X6_in  hr13) ggX6_isNumber_X6_in (by decide +kernel) (by decide +kernel) (by decide +kernel) rfl (by decide +kernel) ⟨by decide, by decide⟩ rfl hl.1 rfl (Nat.le_of_ble_eq_true rfl) dX6_isNumber_49 (fun H locs hP hS => ?_)
      refine lv_if_eq (tgt := 85) X.1 X.2.1 dX6_isNumber_52 (by decide) (fun c14 => ?_) (fun c14 => ?_)
      · have hf := ifp hf c14
        refine lv_aload_n X.1 X.2.1 dX6_isNumber_85 rfl (lv_at hl 2 rfl) ?_
        refine lv_iload X.1 X.2.1 dX6_isNumber_86 (lv_at hl 0 rfl) ?_
        refine x_put (ty := .int) X hP hS hG_M.1 (by omega) rfl in_X6_isNumber_X6 tyX6 tyX6_ok nmX6 6 (by decide) (by decide +kernel) rfl rfl (by decide +kernel) rfl rfl (Nat.le_of_ble_eq_true rfl) dX6_isNumber_88 (fun E H locs h1 hk hP hS => ?_)
        have hG_M := Mo_set_0 hG_M h1 hk
        have hfr : ∀ j, (j < 64 ∨ 74 ≤ j) → E j = E0 j := fun j o0 => (hk j (by omega)).trans (hfr j o0)
        refine lv_iload X.1 X.2.1 dX6_isNumber_91 (lv_at hl 0 rfl) ?_
        refine lv_iload_n X.1 X.2.1 dX6_isNumber_93 rfl (lv_at hl 3 rfl) ?_
        refine lv_iload_n X.1 X.2.1 dX6_isNumber_94 rfl (lv_at hl 4 rfl) ?_
        obtain ⟨r15, hr15, hf⟩ := bd_of hf
        refine x_rdSi X hP hS (index := 38) (n := 3) (As := [.int x4, .int p1, .int p2]) (ct_X6_in  hr15) ggX6_isNumber_X6_in (by decide +kernel) (by decide +kernel) (by decide +kernel) rfl (by decide +kernel) ⟨by decide, by decide⟩ rfl hl.1 rfl (Nat.le_of_ble_eq_true rfl) dX6_isNumber_95 (fun H locs hP hS => ?_)
        refine lv_if_ne (tgt := 108) X.1 X.2.1 dX6_isNumber_98 (by decide) (fun c16 => ?_) (fun c16 => ?_)
        · have hf := ifn hf c16
          refine lv_aload_n X.1 X.2.1 dX6_isNumber_108 rfl (lv_at hl 2 rfl) ?_
          refine x_get X hP hG_M.1 (by omega) rfl in_X6_isNumber_X6 5 (by decide) (by decide +kernel) rfl rfl dX6_isNumber_109 ?_
          refine lv_aload_n X.1 X.2.1 dX6_isNumber_112 rfl (lv_at hl 2 rfl) ?_
          refine x_get X hP hG_M.1 (by omega) rfl in_X6_isNumber_X6 3 (by decide) (by decide +kernel) rfl rfl dX6_isNumber_113 ?_
          refine lv_icmp_eq (tgt := 138) X.1 X.2.1 dX6_isNumber_116 (by decide) (fun c17 => ?_) (fun c17 => ?_)
          · have hf := ifp hf c17
            refine lv_iconst (v := 1) X.1 X.2.1 dX6_isNumber_138 (by decide) ?_
            refine lv_goto (tgt := 143) X.1 X.2.1 dX6_isNumber_139 (by decide) ?_
            obtain rfl := Option.some.inj hf
            exact hret _ _ _ _ _ _ dX6_isNumber_143 rfl rfl (⟨hG_M, hfr⟩) hP hS
          · have hf := ifn hf c17
            refine lv_aload_n X.1 X.2.1 dX6_isNumber_119 rfl (lv_at hl 2 rfl) ?_
            refine x_get X hP hG_M.1 (by omega) rfl in_X6_isNumber_X6 4 (by decide) (by decide +kernel) rfl rfl dX6_isNumber_120 ?_
            refine lv_aload_n X.1 X.2.1 dX6_isNumber_123 rfl (lv_at hl 2 rfl) ?_
            refine x_get X hP hG_M.1 (by omega) rfl in_X6_isNumber_X6 5 (by decide) (by decide +kernel) rfl rfl dX6_isNumber_124 ?_
            obtain ⟨hi18, hf⟩ := gin_of hf
            refine x_iald X hP hG_M.2.2.2.2.1 (by omega) hi18 dX6_isNumber_127 ?_
            refine lv_bipush (v := 48) X.1 X.2.1 dX6_isNumber_128 (by decide) ?_
            refine lv_bipush (v := 57) X.1 X.2.1 dX6_isNumber_130 (by decide) ?_
            obtain ⟨r19, hr19, hf⟩ := bd_of hf
            refine x_rdSi X hP hS (index := 38) (n := 3) (As := [.int (tap_M (Int32.toNatClampNeg r1.2.1)), .int 48, .int 57]) (ct_X6_in  hr19) ggX6_isNumber_X6_in (by decide +kernel) (by decide +kernel) (by decide +kernel) rfl (by decide +kernel) ⟨by decide, by decide⟩ rfl hl.1 rfl (Nat.le_of_ble_eq_true rfl) dX6_isNumber_132 (fun H locs hP hS => ?_)
            refine lv_if_ne (tgt := 142) X.1 X.2.1 dX6_isNumber_135 (by decide) (fun c20 => ?_) (fun c20 => ?_)
            · have hf := ifn hf c20
              refine lv_iconst (v := 0) X.1 X.2.1 dX6_isNumber_142 (by decide) ?_
              obtain rfl := Option.some.inj hf
              exact hret _ _ _ _ _ _ dX6_isNumber_143 rfl rfl (⟨hG_M, hfr⟩) hP hS
            · have hf := ifp hf c20
              refine lv_iconst (v := 1) X.1 X.2.1 dX6_isNumber_138 (by decide) ?_
              refine lv_goto (tgt := 143) X.1 X.2.1 dX6_isNumber_139 (by decide) ?_
              obtain rfl := Option.some.inj hf
              exact hret _ _ _ _ _ _ dX6_isNumber_143 rfl rfl (⟨hG_M, hfr⟩) hP hS
        · have hf := ifp hf c16
          refine lv_aload_n X.1 X.2.1 dX6_isNumber_101 rfl (lv_at hl 2 rfl) ?_
          refine lv_iload_n X.1 X.2.1 dX6_isNumber_102 rfl (lv_at hl 1 rfl) ?_
          refine x_put (ty := .int) X hP hS hG_M.1 (by omega) rfl in_X6_isNumber_X6 tyX6 tyX6_ok nmX6 5 (by decide) (by decide +kernel) rfl rfl (by decide +kernel) rfl rfl (Nat.le_of_ble_eq_true rfl) dX6_isNumber_103 (fun E H locs h1 hk hP hS => ?_)
          have hG_M := Mo_set_0 hG_M h1 hk
          have hfr : ∀ j, (j < 64 ∨ 74 ≤ j) → E j = E0 j := fun j o0 => (hk j (by omega)).trans (hfr j o0)
          refine lv_iconst (v := 0) X.1 X.2.1 dX6_isNumber_106 (by decide) ?_
          obtain rfl := Option.some.inj hf
          exact hret _ _ _ _ _ _ dX6_isNumber_107 rfl rfl (⟨hG_M, hfr⟩) hP hS
      · have hf := ifn hf c14
        refine lv_bipush (v := 10) X.1 X.2.1 dX6_isNumber_55 (by decide) ?_
        refine lv_iload X.1 X.2.1 dX6_isNumber_57 (lv_at hl 0 rfl) ?_
        refine lv_imul X.1 X.2.1 dX6_isNumber_59 ?_
        refine lv_aload_n X.1 X.2.1 dX6_isNumber_60 rfl (lv_at hl 2 rfl) ?_
        refine x_get X hP hG_M.1 (by omega) rfl in_X6_isNumber_X6 4 (by decide) (by decide +kernel) rfl rfl dX6_isNumber_61 ?_
        refine lv_aload_n X.1 X.2.1 dX6_isNumber_64 rfl (lv_at hl 2 rfl) ?_
        refine x_get X hP hG_M.1 (by omega) rfl in_X6_isNumber_X6 5 (by decide) (by decide +kernel) rfl rfl dX6_isNumber_65 ?_
        obtain ⟨hi21, hf⟩ := gin_of hf
        refine x_iald X hP hG_M.2.2.2.2.1 (by omega) hi21 dX6_isNumber_68 ?_
        refine lv_iadd X.1 X.2.1 dX6_isNumber_69 ?_
        refine lv_bipush (v := 48) X.1 X.2.1 dX6_isNumber_70 (by decide) ?_
        refine lv_isub X.1 X.2.1 dX6_isNumber_72 ?_
        obtain ⟨x22, ex22, hf⟩ := nm_of hf
        refine lv_top_as ex22 ?_
        refine lv_istore (lv' := [(4, .int x22), (3, .int x3), (0, .ref (qa 64)), (1, .int p1), (2, .int p2)]) X.1 X.2.1 dX6_isNumber_73 hl (by decide) rfl (fun ls hl => ?_)
        refine lv_aload_n X.1 X.2.1 dX6_isNumber_75 rfl (lv_at hl 2 rfl) ?_
        refine lv_dup X.1 X.2.1 dX6_isNumber_76 rfl ?_
        refine x_get X hP hG_M.1 (by omega) rfl in_X6_isNumber_X6 5 (by decide) (by decide +kernel) rfl rfl dX6_isNumber_77 ?_
        refine lv_iconst (v := 1) X.1 X.2.1 dX6_isNumber_80 (by decide) ?_
        refine lv_iadd X.1 X.2.1 dX6_isNumber_81 ?_
        refine x_put (ty := .int) X hP hS hG_M.1 (by omega) rfl in_X6_isNumber_X6 tyX6 tyX6_ok nmX6 5 (by decide) (by decide +kernel) rfl rfl (by decide +kernel) rfl rfl (Nat.le_of_ble_eq_true rfl) dX6_isNumber_82 (fun E H locs h1 hk hP hS => ?_)
        have hG_M := Mo_set_0 hG_M h1 hk
        have hfr : ∀ j, (j < 64 ∨ 74 ≤ j) → E j = E0 j := fun j o0 => (hk j (by omega)).trans (hfr j o0)
        refine lv_aload_n X.1 X.2.1 dX6_isNumber_85 rfl (lv_at hl 2 rfl) ?_
        refine lv_iload X.1 X.2.1 dX6_isNumber_86 (lv_at hl 0 rfl) ?_
        refine x_put (ty := .int) X hP hS hG_M.1 (by omega) rfl in_X6_isNumber_X6 tyX6 tyX6_ok nmX6 6 (by decide) (by decide +kernel) rfl rfl (by decide +kernel) rfl rfl (Nat.le_of_ble_eq_true rfl) dX6_isNumber_88 (fun E H locs h1 hk hP hS => ?_)
        have hG_M := Mo_set_0 hG_M h1 hk
        have hfr : ∀ j, (j < 64 ∨ 74 ≤ j) → E j = E0 j := fun j o0 => (hk j (by omega)).trans (hfr j o0)
        refine lv_iload X.1 X.2.1 dX6_isNumber_91 (lv_at hl 0 rfl) ?_
        refine lv_iload_n X.1 X.2.1 dX6_isNumber_93 rfl (lv_at hl 3 rfl) ?_
        refine lv_iload_n X.1 X.2.1 dX6_isNumber_94 rfl (lv_at hl 4 rfl) ?_
        obtain ⟨r23, hr23, hf⟩ := bd_of hf
        refine x_rdSi X hP hS (index := 38) (n := 3) (As := [.int x22, .int p1, .int p2]) (ct_X6_in  hr23) ggX6_isNumber_X6_in (by decide +kernel) (by decide +kernel) (by decide +kernel) rfl (by decide +kernel) ⟨by decide, by decide⟩ rfl hl.1 rfl (Nat.le_of_ble_eq_true rfl) dX6_isNumber_95 (fun H locs hP hS => ?_)
        refine lv_if_ne (tgt := 108) X.1 X.2.1 dX6_isNumber_98 (by decide) (fun c24 => ?_) (fun c24 => ?_)
        · have hf := ifn hf c24
          refine lv_aload_n X.1 X.2.1 dX6_isNumber_108 rfl (lv_at hl 2 rfl) ?_
          refine x_get X hP hG_M.1 (by omega) rfl in_X6_isNumber_X6 5 (by decide) (by decide +kernel) rfl rfl dX6_isNumber_109 ?_
          refine lv_aload_n X.1 X.2.1 dX6_isNumber_112 rfl (lv_at hl 2 rfl) ?_
          refine x_get X hP hG_M.1 (by omega) rfl in_X6_isNumber_X6 3 (by decide) (by decide +kernel) rfl rfl dX6_isNumber_113 ?_
          refine lv_icmp_eq (tgt := 138) X.1 X.2.1 dX6_isNumber_116 (by decide) (fun c25 => ?_) (fun c25 => ?_)
          · have hf := ifp hf c25
            refine lv_iconst (v := 1) X.1 X.2.1 dX6_isNumber_138 (by decide) ?_
            refine lv_goto (tgt := 143) X.1 X.2.1 dX6_isNumber_139 (by decide) ?_
            obtain rfl := Option.some.inj hf
            exact hret _ _ _ _ _ _ dX6_isNumber_143 rfl rfl (⟨hG_M, hfr⟩) hP hS
          · have hf := ifn hf c25
            refine lv_aload_n X.1 X.2.1 dX6_isNumber_119 rfl (lv_at hl 2 rfl) ?_
            refine x_get X hP hG_M.1 (by omega) rfl in_X6_isNumber_X6 4 (by decide) (by decide +kernel) rfl rfl dX6_isNumber_120 ?_
            refine lv_aload_n X.1 X.2.1 dX6_isNumber_123 rfl (lv_at hl 2 rfl) ?_
            refine x_get X hP hG_M.1 (by omega) rfl in_X6_isNumber_X6 5 (by decide) (by decide +kernel) rfl rfl dX6_isNumber_124 ?_
            obtain ⟨hi26, hf⟩ := gin_of hf
            refine x_iald X hP hG_M.2.2.2.2.1 (by omega) hi26 dX6_isNumber_127 ?_
            refine lv_bipush (v := 48) X.1 X.2.1 dX6_isNumber_128 (by decide) ?_
            refine lv_bipush (v := 57) X.1 X.2.1 dX6_isNumber_130 (by decide) ?_
            obtain ⟨r27, hr27, hf⟩ := bd_of hf
            refine x_rdSi X hP hS (index := 38) (n := 3) (As := [.int (tap_M (Int32.toNatClampNeg (r1.2.1 + 1))), .int 48, .int 57]) (ct_X6_in  hr27) ggX6_isNumber_X6_in (by decide +kernel) (by decide +kernel) (by decide +kernel) rfl (by decide +kernel) ⟨by decide, by decide⟩ rfl hl.1 rfl (Nat.le_of_ble_eq_true rfl) dX6_isNumber_132 (fun H locs hP hS => ?_)
            refine lv_if_ne (tgt := 142) X.1 X.2.1 dX6_isNumber_135 (by decide) (fun c28 => ?_) (fun c28 => ?_)
            · have hf := ifn hf c28
              refine lv_iconst (v := 0) X.1 X.2.1 dX6_isNumber_142 (by decide) ?_
              obtain rfl := Option.some.inj hf
              exact hret _ _ _ _ _ _ dX6_isNumber_143 rfl rfl (⟨hG_M, hfr⟩) hP hS
            · have hf := ifp hf c28
              refine lv_iconst (v := 1) X.1 X.2.1 dX6_isNumber_138 (by decide) ?_
              refine lv_goto (tgt := 143) X.1 X.2.1 dX6_isNumber_139 (by decide) ?_
              obtain rfl := Option.some.inj hf
              exact hret _ _ _ _ _ _ dX6_isNumber_143 rfl rfl (⟨hG_M, hfr⟩) hP hS
        · have hf := ifp hf c24
          refine lv_aload_n X.1 X.2.1 dX6_isNumber_101 rfl (lv_at hl 2 rfl) ?_
          refine lv_iload_n X.1 X.2.1 dX6_isNumber_102 rfl (lv_at hl 1 rfl) ?_
          refine x_put (ty := .int) X hP hS hG_M.1 (by omega) rfl in_X6_isNumber_X6 tyX6 tyX6_ok nmX6 5 (by decide) (by decide +kernel) rfl rfl (by decide +kernel) rfl rfl (Nat.le_of_ble_eq_true rfl) dX6_isNumber_103 (fun E H locs h1 hk hP hS => ?_)
          have hG_M := Mo_set_0 hG_M h1 hk
          have hfr : ∀ j, (j < 64 ∨ 74 ≤ j) → E j = E0 j := fun j o0 => (hk j (by omega)).trans (hfr j o0)
          refine lv_iconst (v := 0) X.1 X.2.1 dX6_isNumber_106 (by decide) ?_
          obtain rfl := Option.some.inj hf
          exact hret _ _ _ _ _ _ dX6_isNumber_107 rfl rfl (⟨hG_M, hfr⟩) hP hS
  · have hf := ifp hf c2
    refine lv_iconst (v := 0) X.1 X.2.1 dX6_isNumber_10 (by decide) ?_
    obtain rfl := Option.some.inj hf
    exact hret _ _ _ _ _ _ dX6_isNumber_11 rfl rfl (⟨hG_M, hfr⟩) hP hS
def fX6_addMan (p2 : Int32)  (arr_s : Nat → Int32) : Option (Int32 × (Nat → Int32)) := gin 19 191 (nm (arr_s (Int32.toNatClampNeg 19)) (fun x2 => gin (20 + x2) 191 (gin (2 + x2) 191 (gin 19 191 (gin 19 191 (some (x2, upd (upd (upd arr_s (Int32.toNatClampNeg (20 + x2)) p2) (Int32.toNatClampNeg (2 + x2)) p2) (Int32.toNatClampNeg 19) (((upd (upd arr_s (Int32.toNatClampNeg (20 + x2)) p2) (Int32.toNatClampNeg (2 + x2)) p2) (Int32.toNatClampNeg 19)) + 1))))))))
set_option maxHeartbeats 4000000 in
set_option maxRecDepth 100000 in
theorem ct_X6_addMan {l : Launch} {D : va_G} {g : Nat → ClassId} {qa : Nat → Nat} {E0 : Nat → va_E} {k : Nat} {p2 : Int32} {arr_s : Nat → Int32} (hb_s : k < 74) (hG_s : E0 k = .inl (g 0, 191, .inl arr_s)) {R : (Int32 × (Nat → Int32))} (hf : fX6_addMan p2 arr_s = some R) : MI l yX6_addMan wsX6_addMan 0 D g qa E0 [.ref (qa k), .int p2] R.1 (fun E => E k = .inl (g 0, 191, .inl R.2) ∧ ∀ j, j ≠ k → E j = E0 j) := by
  refine MI.mk (by decide) rfl (Nat.le_of_ble_eq_true rfl) ?_
  intro p e s m args below meth c ls Q X hret hP hS hl
  have hl : lv_has ls 3 [(0, .ref (qa k)), (1, .int p2)] := hl
  have hfr : ∀ j, j ≠ k → E0 j = E0 j := fun _ _ => rfl
  rw [fX6_addMan] at hf
  refine lv_aload_n X.1 X.2.1 dX6_addMan_0 rfl (lv_at hl 0 rfl) ?_
  refine lv_bipush (v := 19) X.1 X.2.1 dX6_addMan_1 (by decide) ?_
  obtain ⟨hi1, hf⟩ := gin_of hf
  refine x_iald X hP hG_s (by omega) hi1 dX6_addMan_3 ?_
  obtain ⟨x2, ex2, hf⟩ := nm_of hf
  refine lv_top_as ex2 ?_
  refine lv_istore_n (lv' := [(2, .int x2), (0, .ref (qa k)), (1, .int p2)]) X.1 X.2.1 dX6_addMan_4 rfl hl (by decide) rfl (fun ls hl => ?_)
  refine lv_aload_n X.1 X.2.1 dX6_addMan_5 rfl (lv_at hl 1 rfl) ?_
  refine lv_bipush (v := 20) X.1 X.2.1 dX6_addMan_6 (by decide) ?_
  refine lv_iload_n X.1 X.2.1 dX6_addMan_8 rfl (lv_at hl 0 rfl) ?_
  refine lv_iadd X.1 X.2.1 dX6_addMan_9 ?_
  refine lv_iload_n X.1 X.2.1 dX6_addMan_10 rfl (lv_at hl 2 rfl) ?_
  obtain ⟨hi3, hf⟩ := gin_of hf
  refine x_iast X hP hS hG_s (by omega) hi3 dX6_addMan_11 (fun E H locs h1 hk hP hS => ?_)
  have hG_s := h1
  have hfr : ∀ j, j ≠ k → E j = E0 j := fun j o0 => (hk j (by omega)).trans (hfr j o0)
  refine lv_aload_n X.1 X.2.1 dX6_addMan_12 rfl (lv_at hl 1 rfl) ?_
  refine lv_iconst (v := 2) X.1 X.2.1 dX6_addMan_13 (by decide) ?_
  refine lv_iload_n X.1 X.2.1 dX6_addMan_14 rfl (lv_at hl 0 rfl) ?_
  refine lv_iadd X.1 X.2.1 dX6_addMan_15 ?_
  refine lv_iload_n X.1 X.2.1 dX6_addMan_16 rfl (lv_at hl 2 rfl) ?_
  obtain ⟨hi4, hf⟩ := gin_of hf
  refine x_iast X hP hS hG_s (by omega) hi4 dX6_addMan_17 (fun E H locs h1 hk hP hS => ?_)
  have hG_s := h1
  have hfr : ∀ j, j ≠ k → E j = E0 j := fun j o0 => (hk j (by omega)).trans (hfr j o0)
  refine lv_aload_n X.1 X.2.1 dX6_addMan_18 rfl (lv_at hl 1 rfl) ?_
  refine lv_bipush (v := 19) X.1 X.2.1 dX6_addMan_19 (by decide) ?_
  refine lv_dup2_11 X.1 X.2.1 dX6_addMan_21 rfl rfl ?_
  obtain ⟨hi5, hf⟩ := gin_of hf
  refine x_iald X hP hG_s (by omega) hi5 dX6_addMan_22 ?_
  refine lv_iconst (v := 1) X.1 X.2.1 dX6_addMan_23 (by decide) ?_
  refine lv_iadd X.1 X.2.1 dX6_addMan_24 ?_
  obtain ⟨hi6, hf⟩ := gin_of hf
  refine x_iast X hP hS hG_s (by omega) hi6 dX6_addMan_25 (fun E H locs h1 hk hP hS => ?_)
  have hG_s := h1
  have hfr : ∀ j, j ≠ k → E j = E0 j := fun j o0 => (hk j (by omega)).trans (hfr j o0)
  refine lv_iload_n X.1 X.2.1 dX6_addMan_26 rfl (lv_at hl 0 rfl) ?_
  obtain rfl := Option.some.inj hf
  exact hret _ _ _ _ _ _ dX6_addMan_27 rfl rfl (⟨hG_s, hfr⟩) hP hS
def fX6_isSign (p1 : Int32)  (ltr_M : Int32) (pos_M : Int32) (tap_M : Nat → Int32) : Option (Int32 × Int32) := (fX6_peek ltr_M pos_M tap_M).bind (fun r1 => if r1.1 = p1 then (some (1, r1.2 + 1)) else (some (0, r1.2)))
theorem in_X6_isSign_X6 : ∀ w ∈ wsX60, w ∈ wsX6_isSign := by decide +kernel
set_option maxHeartbeats 4000000 in
set_option maxRecDepth 100000 in
theorem ct_X6_isSign {l : Launch} {D : va_G} {g : Nat → ClassId} {qa : Nat → Nat} {E0 : Nat → va_E} {p1 : Int32} {ltr_M : Int32} {pos_M : Int32} {num_M : Int32} {isk_M : Int32} {bm_M : Int32} {bch_M : Int32} {lan_M : Nat → Int32} {siz_M : Nat → Int32} {itm_M : Nat → Int64} {tap_M : Nat → Int32} {now_M : Nat → Int32} {tri_M : Nat → Int32} {rd_M : Nat → Int32} {kp_M : Nat → Int32} {bes_M : Nat → Int32} (hG_M : Mo g qa E0 64 ltr_M pos_M num_M isk_M bm_M bch_M lan_M siz_M itm_M tap_M now_M tri_M rd_M kp_M bes_M) {R : (Int32 × Int32)} (hf : fX6_isSign p1 ltr_M pos_M tap_M = some R) : MI l yX6_isSign wsX6_isSign 1 D g qa E0 [.ref (qa 64), .int p1] R.1 (fun E => Mo g qa E 64 ltr_M R.2 num_M isk_M bm_M bch_M lan_M siz_M itm_M tap_M now_M tri_M rd_M kp_M bes_M ∧ ∀ j, (j < 64 ∨ 74 ≤ j) → E j = E0 j) := by
  refine MI.mk (by decide) rfl (Nat.le_of_ble_eq_true rfl) ?_
  intro p e s m args below meth c ls Q X hret hP hS hl
  have hl : lv_has ls 2 [(0, .ref (qa 64)), (1, .int p1)] := hl
  have hfr : ∀ j, (j < 64 ∨ 74 ≤ j) → E0 j = E0 j := fun _ _ => rfl
  rw [fX6_isSign] at hf
  refine lv_aload_n X.1 X.2.1 dX6_isSign_0 rfl (lv_at hl 0 rfl) ?_
  obtain ⟨r1, hr1, hf⟩ := bd_of hf
  refine x_callVi X hP hS hG_M.1 (by omega) rfl (n := 0) (As := []) (ct_X6_peek hG_M hr1) gX6_isSign_X6_peek rfl (by decide +kernel) ⟨by decide, by decide⟩ rfl hl.1 rfl (Nat.le_of_ble_eq_true rfl) dX6_isSign_1 (fun E H locs hp hP hS => ?_)
  obtain ⟨hW_M, hk⟩ := hp
  have hG_M := hW_M
  have hfr : ∀ j, (j < 64 ∨ 74 ≤ j) → E j = E0 j := fun j o0 => (hk j (by omega)).trans (hfr j o0)
  refine lv_iload_n X.1 X.2.1 dX6_isSign_4 rfl (lv_at hl 1 rfl) ?_
  refine lv_icmp_eq (tgt := 10) X.1 X.2.1 dX6_isSign_5 (by decide) (fun c2 => ?_) (fun c2 => ?_)
  · have hf := ifp hf c2
    refine lv_aload_n X.1 X.2.1 dX6_isSign_10 rfl (lv_at hl 0 rfl) ?_
    refine lv_dup X.1 X.2.1 dX6_isSign_11 rfl ?_
    refine x_get X hP hG_M.1 (by omega) rfl in_X6_isSign_X6 5 (by decide) (by decide +kernel) rfl rfl dX6_isSign_12 ?_
    refine lv_iconst (v := 1) X.1 X.2.1 dX6_isSign_15 (by decide) ?_
    refine lv_iadd X.1 X.2.1 dX6_isSign_16 ?_
    refine x_put (ty := .int) X hP hS hG_M.1 (by omega) rfl in_X6_isSign_X6 tyX6 tyX6_ok nmX6 5 (by decide) (by decide +kernel) rfl rfl (by decide +kernel) rfl rfl (Nat.le_of_ble_eq_true rfl) dX6_isSign_17 (fun E H locs h1 hk hP hS => ?_)
    have hG_M := Mo_set_0 hG_M h1 hk
    have hfr : ∀ j, (j < 64 ∨ 74 ≤ j) → E j = E0 j := fun j o0 => (hk j (by omega)).trans (hfr j o0)
    refine lv_iconst (v := 1) X.1 X.2.1 dX6_isSign_20 (by decide) ?_
    obtain rfl := Option.some.inj hf
    exact hret _ _ _ _ _ _ dX6_isSign_21 rfl rfl (⟨hG_M, hfr⟩) hP hS
  · have hf := ifn hf c2
    refine lv_iconst (v := 0) X.1 X.2.1 dX6_isSign_8 (by decide) ?_
    obtain rfl := Option.some.inj hf
    exact hret _ _ _ _ _ _ dX6_isSign_9 rfl rfl (⟨hG_M, hfr⟩) hP hS
def fX6_isManItem   (ltr_M : Int32) (pos_M : Int32) (tap_M : Nat → Int32) (rd_M : Nat → Int32) : Option (Int32 × Int32 × Int32 × (Nat → Int32)) := (fX6_isNumber 1 60 ltr_M pos_M tap_M).bind (fun r1 => if r1.1 = 0 then (some (0, r1.2.1, r1.2.2, rd_M)) else ((fX6_addMan r1.2.2 rd_M).bind (fun r3 => nm (r3.1) (fun x4 => (fX6_isSign 45 ltr_M r1.2.1 tap_M).bind (fun r5 => if r5.1 = 0 then (some (1, r5.2, r1.2.2, r3.2)) else (gin (20 + x4) 191 ((fX6_isNumber 0 (r3.2 (Int32.toNatClampNeg (20 + x4))) ltr_M r5.2 tap_M).bind (fun r8 => if r8.1 = 0 then (some (0, r8.2.1, r8.2.2, r3.2)) else (gin (2 + x4) 191 (gin (2 + x4) 191 (some (1, r8.2.1, r8.2.2, upd r3.2 (Int32.toNatClampNeg (2 + x4)) ((r3.2 (Int32.toNatClampNeg (2 + x4))) - r8.2.2)))))))))))))
theorem in_X6_isManItem_X6 : ∀ w ∈ wsX60, w ∈ wsX6_isManItem := by decide +kernel
set_option maxHeartbeats 4000000 in
set_option maxRecDepth 100000 in
theorem ct_X6_isManItem {l : Launch} {D : va_G} {g : Nat → ClassId} {qa : Nat → Nat} {E0 : Nat → va_E} {ltr_M : Int32} {pos_M : Int32} {num_M : Int32} {isk_M : Int32} {bm_M : Int32} {bch_M : Int32} {lan_M : Nat → Int32} {siz_M : Nat → Int32} {itm_M : Nat → Int64} {tap_M : Nat → Int32} {now_M : Nat → Int32} {tri_M : Nat → Int32} {rd_M : Nat → Int32} {kp_M : Nat → Int32} {bes_M : Nat → Int32} (hG_M : Mo g qa E0 64 ltr_M pos_M num_M isk_M bm_M bch_M lan_M siz_M itm_M tap_M now_M tri_M rd_M kp_M bes_M) {R : (Int32 × Int32 × Int32 × (Nat → Int32))} (hf : fX6_isManItem ltr_M pos_M tap_M rd_M = some R) : MI l yX6_isManItem wsX6_isManItem 3 D g qa E0 [.ref (qa 64)] R.1 (fun E => Mo g qa E 64 ltr_M R.2.1 R.2.2.1 isk_M bm_M bch_M lan_M siz_M itm_M tap_M now_M tri_M R.2.2.2 kp_M bes_M ∧ ∀ j, (j < 64 ∨ 74 ≤ j) → E j = E0 j) := by
  refine MI.mk (by decide) rfl (Nat.le_of_ble_eq_true rfl) ?_
  intro p e s m args below meth c ls Q X hret hP hS hl
  have hl : lv_has ls 2 [(0, .ref (qa 64))] := hl
  have hfr : ∀ j, (j < 64 ∨ 74 ≤ j) → E0 j = E0 j := fun _ _ => rfl
  rw [fX6_isManItem] at hf
  refine lv_aload_n X.1 X.2.1 dX6_isManItem_0 rfl (lv_at hl 0 rfl) ?_
  refine lv_iconst (v := 1) X.1 X.2.1 dX6_isManItem_1 (by decide) ?_
  refine lv_bipush (v := 60) X.1 X.2.1 dX6_isManItem_2 (by decide) ?_
  obtain ⟨r1, hr1, hf⟩ := bd_of hf
  refine x_callVi X hP hS hG_M.1 (by omega) rfl (n := 2) (As := [.int 1, .int 60]) (ct_X6_isNumber hG_M hr1) gX6_isManItem_X6_isNumber rfl (by decide +kernel) ⟨by decide, by decide⟩ rfl hl.1 rfl (Nat.le_of_ble_eq_true rfl) dX6_isManItem_4 (fun E H locs hp hP hS => ?_)
  obtain ⟨hW_M, hk⟩ := hp
  have hG_M := hW_M
  have hfr : ∀ j, (j < 64 ∨ 74 ≤ j) → E j = E0 j := fun j o0 => (hk j (by omega)).trans (hfr j o0)
  refine lv_if_ne (tgt := 12) X.1 X.2.1 dX6_isManItem_7 (by decide) (fun c2 => ?_) (fun c2 => ?_)
  · have hf := ifn hf c2
    refine lv_aload_n X.1 X.2.1 dX6_isManItem_12 rfl (lv_at hl 0 rfl) ?_
    refine x_get X hP hG_M.1 (by omega) rfl in_X6_isManItem_X6 9 (by decide) (by decide +kernel) rfl rfl dX6_isManItem_13 ?_
    refine lv_aload_n X.1 X.2.1 dX6_isManItem_16 rfl (lv_at hl 0 rfl) ?_
    refine x_get X hP hG_M.1 (by omega) rfl in_X6_isManItem_X6 6 (by decide) (by decide +kernel) rfl rfl dX6_isManItem_17 ?_
    obtain ⟨r3, hr3, hf⟩ := bd_of hf
    refine x_callSi X hP hS (index := 42) (n := 2) (As := [.ref (qa (64 + 7)), .int r1.2.2]) (ct_X6_addMan (by omega) hG_M.2.2.2.2.2.2.2.1 hr3) ggX6_isManItem_X6_addMan (by decide +kernel) (by decide +kernel) (by decide +kernel) rfl (by decide +kernel) ⟨by decide, by decide⟩ rfl hl.1 rfl (Nat.le_of_ble_eq_true rfl) dX6_isManItem_20 (fun E H locs hp hP hS => ?_)
    obtain ⟨hW_s, hk⟩ := hp
    have hG_M := Mo_set_7 hG_M hW_s hk
    have hfr : ∀ j, (j < 64 ∨ 74 ≤ j) → E j = E0 j := fun j o0 => (hk j (by omega)).trans (hfr j o0)
    obtain ⟨x4, ex4, hf⟩ := nm_of hf
    refine lv_top_as ex4 ?_
    refine lv_istore_n (lv' := [(1, .int x4), (0, .ref (qa 64))]) X.1 X.2.1 dX6_isManItem_23 rfl hl (by decide) rfl (fun ls hl => ?_)
    refine lv_aload_n X.1 X.2.1 dX6_isManItem_24 rfl (lv_at hl 1 rfl) ?_
    refine lv_bipush (v := 45) X.1 X.2.1 dX6_isManItem_25 (by decide) ?_
    obtain ⟨r5, hr5, hf⟩ := bd_of hf
    refine x_callVi X hP hS hG_M.1 (by omega) rfl (n := 1) (As := [.int 45]) (ct_X6_isSign hG_M hr5) gX6_isManItem_X6_isSign rfl (by decide +kernel) ⟨by decide, by decide⟩ rfl hl.1 rfl (Nat.le_of_ble_eq_true rfl) dX6_isManItem_27 (fun E H locs hp hP hS => ?_)
    obtain ⟨hW_M, hk⟩ := hp
    have hG_M := hW_M
    have hfr : ∀ j, (j < 64 ∨ 74 ≤ j) → E j = E0 j := fun j o0 => (hk j (by omega)).trans (hfr j o0)
    refine lv_if_eq (tgt := 67) X.1 X.2.1 dX6_isManItem_30 (by decide) (fun c6 => ?_) (fun c6 => ?_)
    · have hf := ifp hf c6
      refine lv_iconst (v := 1) X.1 X.2.1 dX6_isManItem_67 (by decide) ?_
      obtain rfl := Option.some.inj hf
      exact hret _ _ _ _ _ _ dX6_isManItem_68 rfl rfl (⟨hG_M, hfr⟩) hP hS
    · have hf := ifn hf c6
      refine lv_aload_n X.1 X.2.1 dX6_isManItem_33 rfl (lv_at hl 1 rfl) ?_
      refine lv_iconst (v := 0) X.1 X.2.1 dX6_isManItem_34 (by decide) ?_
      refine lv_aload_n X.1 X.2.1 dX6_isManItem_35 rfl (lv_at hl 1 rfl) ?_
      refine x_get X hP hG_M.1 (by omega) rfl in_X6_isManItem_X6 9 (by decide) (by decide +kernel) rfl rfl dX6_isManItem_36 ?_
      refine lv_bipush (v := 20) X.1 X.2.1 dX6_isManItem_39 (by decide) ?_
      refine lv_iload_n X.1 X.2.1 dX6_isManItem_41 rfl (lv_at hl 0 rfl) ?_
      refine lv_iadd X.1 X.2.1 dX6_isManItem_42 ?_
      obtain ⟨hi7, hf⟩ := gin_of hf
      refine x_iald X hP hG_M.2.2.2.2.2.2.2.1 (by omega) hi7 dX6_isManItem_43 ?_
      obtain ⟨r8, hr8, hf⟩ := bd_of hf
      refine x_callVi X hP hS hG_M.1 (by omega) rfl (n := 2) (As := [.int 0, .int (r3.2 (Int32.toNatClampNeg (20 + x4)))]) (ct_X6_isNumber hG_M hr8) gX6_isManItem_X6_isNumber rfl (by decide +kernel) ⟨by decide, by decide⟩ rfl hl.1 rfl (Nat.le_of_ble_eq_true rfl) dX6_isManItem_44 (fun E H locs hp hP hS => ?_)
      obtain ⟨hW_M, hk⟩ := hp
      have hG_M := hW_M
      have hfr : ∀ j, (j < 64 ∨ 74 ≤ j) → E j = E0 j := fun j o0 => (hk j (by omega)).trans (hfr j o0)
      refine lv_if_ne (tgt := 52) X.1 X.2.1 dX6_isManItem_47 (by decide) (fun c9 => ?_) (fun c9 => ?_)
      · have hf := ifn hf c9
        refine lv_aload_n X.1 X.2.1 dX6_isManItem_52 rfl (lv_at hl 1 rfl) ?_
        refine x_get X hP hG_M.1 (by omega) rfl in_X6_isManItem_X6 9 (by decide) (by decide +kernel) rfl rfl dX6_isManItem_53 ?_
        refine lv_iconst (v := 2) X.1 X.2.1 dX6_isManItem_56 (by decide) ?_
        refine lv_iload_n X.1 X.2.1 dX6_isManItem_57 rfl (lv_at hl 0 rfl) ?_
        refine lv_iadd X.1 X.2.1 dX6_isManItem_58 ?_
        refine lv_dup2_11 X.1 X.2.1 dX6_isManItem_59 rfl rfl ?_
        obtain ⟨hi10, hf⟩ := gin_of hf
        refine x_iald X hP hG_M.2.2.2.2.2.2.2.1 (by omega) hi10 dX6_isManItem_60 ?_
        refine lv_aload_n X.1 X.2.1 dX6_isManItem_61 rfl (lv_at hl 1 rfl) ?_
        refine x_get X hP hG_M.1 (by omega) rfl in_X6_isManItem_X6 6 (by decide) (by decide +kernel) rfl rfl dX6_isManItem_62 ?_
        refine lv_isub X.1 X.2.1 dX6_isManItem_65 ?_
        obtain ⟨hi11, hf⟩ := gin_of hf
        refine x_iast X hP hS hG_M.2.2.2.2.2.2.2.1 (by omega) hi11 dX6_isManItem_66 (fun E H locs h1 hk hP hS => ?_)
        have hG_M := Mo_set_7 hG_M h1 hk
        have hfr : ∀ j, (j < 64 ∨ 74 ≤ j) → E j = E0 j := fun j o0 => (hk j (by omega)).trans (hfr j o0)
        refine lv_iconst (v := 1) X.1 X.2.1 dX6_isManItem_67 (by decide) ?_
        obtain rfl := Option.some.inj hf
        exact hret _ _ _ _ _ _ dX6_isManItem_68 rfl rfl (⟨hG_M, hfr⟩) hP hS
      · have hf := ifp hf c9
        refine lv_iconst (v := 0) X.1 X.2.1 dX6_isManItem_50 (by decide) ?_
        obtain rfl := Option.some.inj hf
        exact hret _ _ _ _ _ _ dX6_isManItem_51 rfl rfl (⟨hG_M, hfr⟩) hP hS
  · have hf := ifp hf c2
    refine lv_iconst (v := 0) X.1 X.2.1 dX6_isManItem_10 (by decide) ?_
    obtain rfl := Option.some.inj hf
    exact hret _ _ _ _ _ _ dX6_isManItem_11 rfl rfl (⟨hG_M, hfr⟩) hP hS
def fX6_kindBy (p1 : Int32)   : Option Int32 := if p1 = 98 then (some 0) else (if p1 = 114 then (some 1) else (if p1 = 102 then (some 2) else (if p1 = 112 then (some 3) else (if p1 = 109 then (some 4) else (some (-1))))))
set_option maxHeartbeats 4000000 in
set_option maxRecDepth 100000 in
theorem ct_X6_kindBy {l : Launch} {D : va_G} {g : Nat → ClassId} {qa : Nat → Nat} {E0 : Nat → va_E} {p1 : Int32} {R : Int32} (hf : fX6_kindBy p1 = some R) : MI l yX6_kindBy wsX6_kindBy 0 D g qa E0 [.int p1] R (fun E => E = E0) := by
  refine MI.mk (by decide) rfl (Nat.le_of_ble_eq_true rfl) ?_
  intro p e s m args below meth c ls Q X hret hP hS hl
  have hl : lv_has ls 1 [(0, .int p1)] := hl
  rw [fX6_kindBy] at hf
  refine lv_iload_n X.1 X.2.1 dX6_kindBy_0 rfl (lv_at hl 0 rfl) ?_
  refine lv_bipush (v := 98) X.1 X.2.1 dX6_kindBy_1 (by decide) ?_
  refine lv_icmp_ne (tgt := 10) X.1 X.2.1 dX6_kindBy_3 (by decide) (fun c1 => ?_) (fun c1 => ?_)
  · have hf := ifn hf c1
    refine lv_iload_n X.1 X.2.1 dX6_kindBy_10 rfl (lv_at hl 0 rfl) ?_
    refine lv_bipush (v := 114) X.1 X.2.1 dX6_kindBy_11 (by decide) ?_
    refine lv_icmp_ne (tgt := 20) X.1 X.2.1 dX6_kindBy_13 (by decide) (fun c2 => ?_) (fun c2 => ?_)
    · have hf := ifn hf c2
      refine lv_iload_n X.1 X.2.1 dX6_kindBy_20 rfl (lv_at hl 0 rfl) ?_
      refine lv_bipush (v := 102) X.1 X.2.1 dX6_kindBy_21 (by decide) ?_
      refine lv_icmp_ne (tgt := 30) X.1 X.2.1 dX6_kindBy_23 (by decide) (fun c3 => ?_) (fun c3 => ?_)
      · have hf := ifn hf c3
        refine lv_iload_n X.1 X.2.1 dX6_kindBy_30 rfl (lv_at hl 0 rfl) ?_
        refine lv_bipush (v := 112) X.1 X.2.1 dX6_kindBy_31 (by decide) ?_
        refine lv_icmp_ne (tgt := 40) X.1 X.2.1 dX6_kindBy_33 (by decide) (fun c4 => ?_) (fun c4 => ?_)
        · have hf := ifn hf c4
          refine lv_iload_n X.1 X.2.1 dX6_kindBy_40 rfl (lv_at hl 0 rfl) ?_
          refine lv_bipush (v := 109) X.1 X.2.1 dX6_kindBy_41 (by decide) ?_
          refine lv_icmp_ne (tgt := 50) X.1 X.2.1 dX6_kindBy_43 (by decide) (fun c5 => ?_) (fun c5 => ?_)
          · have hf := ifn hf c5
            refine lv_iconst (v := (-1)) X.1 X.2.1 dX6_kindBy_50 (by decide) ?_
            obtain rfl := Option.some.inj hf
            exact hret _ _ _ _ _ _ dX6_kindBy_51 rfl rfl (rfl) hP hS
          · have hf := ifp hf c5
            refine lv_iconst (v := 4) X.1 X.2.1 dX6_kindBy_46 (by decide) ?_
            refine lv_goto (tgt := 51) X.1 X.2.1 dX6_kindBy_47 (by decide) ?_
            obtain rfl := Option.some.inj hf
            exact hret _ _ _ _ _ _ dX6_kindBy_51 rfl rfl (rfl) hP hS
        · have hf := ifp hf c4
          refine lv_iconst (v := 3) X.1 X.2.1 dX6_kindBy_36 (by decide) ?_
          refine lv_goto (tgt := 51) X.1 X.2.1 dX6_kindBy_37 (by decide) ?_
          obtain rfl := Option.some.inj hf
          exact hret _ _ _ _ _ _ dX6_kindBy_51 rfl rfl (rfl) hP hS
      · have hf := ifp hf c3
        refine lv_iconst (v := 2) X.1 X.2.1 dX6_kindBy_26 (by decide) ?_
        refine lv_goto (tgt := 51) X.1 X.2.1 dX6_kindBy_27 (by decide) ?_
        obtain rfl := Option.some.inj hf
        exact hret _ _ _ _ _ _ dX6_kindBy_51 rfl rfl (rfl) hP hS
    · have hf := ifp hf c2
      refine lv_iconst (v := 1) X.1 X.2.1 dX6_kindBy_16 (by decide) ?_
      refine lv_goto (tgt := 51) X.1 X.2.1 dX6_kindBy_17 (by decide) ?_
      obtain rfl := Option.some.inj hf
      exact hret _ _ _ _ _ _ dX6_kindBy_51 rfl rfl (rfl) hP hS
  · have hf := ifp hf c1
    refine lv_iconst (v := 0) X.1 X.2.1 dX6_kindBy_6 (by decide) ?_
    refine lv_goto (tgt := 51) X.1 X.2.1 dX6_kindBy_7 (by decide) ?_
    obtain rfl := Option.some.inj hf
    exact hret _ _ _ _ _ _ dX6_kindBy_51 rfl rfl (rfl) hP hS
def fX6_addMedal (p2 : Int32) (p3 : Int32) (p4 : Int32)  (arr_s : Nat → Int32) : Option (Int32 × (Nat → Int32)) := gin 25 191 (nm (arr_s (Int32.toNatClampNeg 25)) (fun x2 => gin (26 + x2) 191 (gin (7 + x2) 191 (gin (32 + x2) 191 (gin (13 + x2) 191 (gin 25 191 (gin 25 191 (some (x2, upd (upd (upd (upd (upd arr_s (Int32.toNatClampNeg (26 + x2)) p2) (Int32.toNatClampNeg (7 + x2)) p3) (Int32.toNatClampNeg (32 + x2)) p4) (Int32.toNatClampNeg (13 + x2)) (-4)) (Int32.toNatClampNeg 25) (((upd (upd (upd (upd arr_s (Int32.toNatClampNeg (26 + x2)) p2) (Int32.toNatClampNeg (7 + x2)) p3) (Int32.toNatClampNeg (32 + x2)) p4) (Int32.toNatClampNeg (13 + x2)) (-4)) (Int32.toNatClampNeg 25)) + 1))))))))))
set_option maxHeartbeats 4000000 in
set_option maxRecDepth 100000 in
theorem ct_X6_addMedal {l : Launch} {D : va_G} {g : Nat → ClassId} {qa : Nat → Nat} {E0 : Nat → va_E} {k : Nat} {p2 : Int32} {p3 : Int32} {p4 : Int32} {arr_s : Nat → Int32} (hb_s : k < 74) (hG_s : E0 k = .inl (g 0, 191, .inl arr_s)) {R : (Int32 × (Nat → Int32))} (hf : fX6_addMedal p2 p3 p4 arr_s = some R) : MI l yX6_addMedal wsX6_addMedal 0 D g qa E0 [.ref (qa k), .int p2, .int p3, .int p4] R.1 (fun E => E k = .inl (g 0, 191, .inl R.2) ∧ ∀ j, j ≠ k → E j = E0 j) := by
  refine MI.mk (by decide) rfl (Nat.le_of_ble_eq_true rfl) ?_
  intro p e s m args below meth c ls Q X hret hP hS hl
  have hl : lv_has ls 5 [(0, .ref (qa k)), (1, .int p2), (2, .int p3), (3, .int p4)] := hl
  have hfr : ∀ j, j ≠ k → E0 j = E0 j := fun _ _ => rfl
  rw [fX6_addMedal] at hf
  refine lv_aload_n X.1 X.2.1 dX6_addMedal_0 rfl (lv_at hl 0 rfl) ?_
  refine lv_bipush (v := 25) X.1 X.2.1 dX6_addMedal_1 (by decide) ?_
  obtain ⟨hi1, hf⟩ := gin_of hf
  refine x_iald X hP hG_s (by omega) hi1 dX6_addMedal_3 ?_
  obtain ⟨x2, ex2, hf⟩ := nm_of hf
  refine lv_top_as ex2 ?_
  refine lv_istore (lv' := [(4, .int x2), (0, .ref (qa k)), (1, .int p2), (2, .int p3), (3, .int p4)]) X.1 X.2.1 dX6_addMedal_4 hl (by decide) rfl (fun ls hl => ?_)
  refine lv_aload_n X.1 X.2.1 dX6_addMedal_6 rfl (lv_at hl 1 rfl) ?_
  refine lv_bipush (v := 26) X.1 X.2.1 dX6_addMedal_7 (by decide) ?_
  refine lv_iload X.1 X.2.1 dX6_addMedal_9 (lv_at hl 0 rfl) ?_
  refine lv_iadd X.1 X.2.1 dX6_addMedal_11 ?_
  refine lv_iload_n X.1 X.2.1 dX6_addMedal_12 rfl (lv_at hl 2 rfl) ?_
  obtain ⟨hi3, hf⟩ := gin_of hf
  refine x_iast X hP hS hG_s (by omega) hi3 dX6_addMedal_13 (fun E H locs h1 hk hP hS => ?_)
  have hG_s := h1
  have hfr : ∀ j, j ≠ k → E j = E0 j := fun j o0 => (hk j (by omega)).trans (hfr j o0)
  refine lv_aload_n X.1 X.2.1 dX6_addMedal_14 rfl (lv_at hl 1 rfl) ?_
  refine lv_bipush (v := 7) X.1 X.2.1 dX6_addMedal_15 (by decide) ?_
  refine lv_iload X.1 X.2.1 dX6_addMedal_17 (lv_at hl 0 rfl) ?_
  refine lv_iadd X.1 X.2.1 dX6_addMedal_19 ?_
  refine lv_iload_n X.1 X.2.1 dX6_addMedal_20 rfl (lv_at hl 3 rfl) ?_
  obtain ⟨hi4, hf⟩ := gin_of hf
  refine x_iast X hP hS hG_s (by omega) hi4 dX6_addMedal_21 (fun E H locs h1 hk hP hS => ?_)
  have hG_s := h1
  have hfr : ∀ j, j ≠ k → E j = E0 j := fun j o0 => (hk j (by omega)).trans (hfr j o0)
  refine lv_aload_n X.1 X.2.1 dX6_addMedal_22 rfl (lv_at hl 1 rfl) ?_
  refine lv_bipush (v := 32) X.1 X.2.1 dX6_addMedal_23 (by decide) ?_
  refine lv_iload X.1 X.2.1 dX6_addMedal_25 (lv_at hl 0 rfl) ?_
  refine lv_iadd X.1 X.2.1 dX6_addMedal_27 ?_
  refine lv_iload_n X.1 X.2.1 dX6_addMedal_28 rfl (lv_at hl 4 rfl) ?_
  obtain ⟨hi5, hf⟩ := gin_of hf
  refine x_iast X hP hS hG_s (by omega) hi5 dX6_addMedal_29 (fun E H locs h1 hk hP hS => ?_)
  have hG_s := h1
  have hfr : ∀ j, j ≠ k → E j = E0 j := fun j o0 => (hk j (by omega)).trans (hfr j o0)
  refine lv_aload_n X.1 X.2.1 dX6_addMedal_30 rfl (lv_at hl 1 rfl) ?_
  refine lv_bipush (v := 13) X.1 X.2.1 dX6_addMedal_31 (by decide) ?_
  refine lv_iload X.1 X.2.1 dX6_addMedal_33 (lv_at hl 0 rfl) ?_
  refine lv_iadd X.1 X.2.1 dX6_addMedal_35 ?_
  refine lv_bipush (v := (-4)) X.1 X.2.1 dX6_addMedal_36 (by decide) ?_
  obtain ⟨hi6, hf⟩ := gin_of hf
  refine x_iast X hP hS hG_s (by omega) hi6 dX6_addMedal_38 (fun E H locs h1 hk hP hS => ?_)
  have hG_s := h1
  have hfr : ∀ j, j ≠ k → E j = E0 j := fun j o0 => (hk j (by omega)).trans (hfr j o0)
  refine lv_aload_n X.1 X.2.1 dX6_addMedal_39 rfl (lv_at hl 1 rfl) ?_
  refine lv_bipush (v := 25) X.1 X.2.1 dX6_addMedal_40 (by decide) ?_
  refine lv_dup2_11 X.1 X.2.1 dX6_addMedal_42 rfl rfl ?_
  obtain ⟨hi7, hf⟩ := gin_of hf
  refine x_iald X hP hG_s (by omega) hi7 dX6_addMedal_43 ?_
  refine lv_iconst (v := 1) X.1 X.2.1 dX6_addMedal_44 (by decide) ?_
  refine lv_iadd X.1 X.2.1 dX6_addMedal_45 ?_
  obtain ⟨hi8, hf⟩ := gin_of hf
  refine x_iast X hP hS hG_s (by omega) hi8 dX6_addMedal_46 (fun E H locs h1 hk hP hS => ?_)
  have hG_s := h1
  have hfr : ∀ j, j ≠ k → E j = E0 j := fun j o0 => (hk j (by omega)).trans (hfr j o0)
  refine lv_iload X.1 X.2.1 dX6_addMedal_47 (lv_at hl 0 rfl) ?_
  obtain rfl := Option.some.inj hf
  exact hret _ _ _ _ _ _ dX6_addMedal_49 rfl rfl (⟨hG_s, hfr⟩) hP hS
def fX6_isMedalItem   (ltr_M : Int32) (pos_M : Int32) (num_M : Int32) (tap_M : Nat → Int32) (rd_M : Nat → Int32) : Option (Int32 × Int32 × Int32 × (Nat → Int32)) := (fX6_peek ltr_M pos_M tap_M).bind (fun r1 => (fX6_kindBy r1.1).bind (fun r2 => if 0 ≤ r2 then ((fX6_isNumber 1 20 ltr_M (r1.2 + 1) tap_M).bind (fun r4 => if r4.1 = 0 then (some (0, r4.2.1, r4.2.2, rd_M)) else (nm (r4.2.2) (fun x6 => (fX6_isSign 58 ltr_M r4.2.1 tap_M).bind (fun r7 => if r7.1 = 0 then (some (0, r7.2, r4.2.2, rd_M)) else (gin 19 191 ((fX6_isDigit 0 ((rd_M (Int32.toNatClampNeg 19)) - 1) ltr_M r7.2 tap_M).bind (fun r10 => if r10.1 = 0 then (some (0, r10.2.1, r10.2.2, rd_M)) else ((fX6_addMedal r2 x6 r10.2.2 rd_M).bind (fun r12 => nm (r12.1) (fun x13 => (fX6_isSign 64 ltr_M r10.2.1 tap_M).bind (fun r14 => if r14.1 = 0 then (some (1, r14.2, r10.2.2, r12.2)) else (gin 19 191 ((fX6_isDigit 0 ((r12.2 (Int32.toNatClampNeg 19)) - 1) ltr_M r14.2 tap_M).bind (fun r17 => if r17.1 = 0 then (some (0, r17.2.1, r17.2.2, r12.2)) else (gin (13 + x13) 191 (some (1, r17.2.1, r17.2.2, upd r12.2 (Int32.toNatClampNeg (13 + x13)) r17.2.2)))))))))))))))))) else (some (0, r1.2, num_M, rd_M))))
theorem in_X6_isMedalItem_X6 : ∀ w ∈ wsX60, w ∈ wsX6_isMedalItem := by decide +kernel
set_option maxHeartbeats 4000000 in
set_option maxRecDepth 100000 in
theorem ct_X6_isMedalItem {l : Launch} {D : va_G} {g : Nat → ClassId} {qa : Nat → Nat} {E0 : Nat → va_E} {ltr_M : Int32} {pos_M : Int32} {num_M : Int32} {isk_M : Int32} {bm_M : Int32} {bch_M : Int32} {lan_M : Nat → Int32} {siz_M : Nat → Int32} {itm_M : Nat → Int64} {tap_M : Nat → Int32} {now_M : Nat → Int32} {tri_M : Nat → Int32} {rd_M : Nat → Int32} {kp_M : Nat → Int32} {bes_M : Nat → Int32} (hG_M : Mo g qa E0 64 ltr_M pos_M num_M isk_M bm_M bch_M lan_M siz_M itm_M tap_M now_M tri_M rd_M kp_M bes_M) {R : (Int32 × Int32 × Int32 × (Nat → Int32))} (hf : fX6_isMedalItem ltr_M pos_M num_M tap_M rd_M = some R) : MI l yX6_isMedalItem wsX6_isMedalItem 3 D g qa E0 [.ref (qa 64)] R.1 (fun E => Mo g qa E 64 ltr_M R.2.1 R.2.2.1 isk_M bm_M bch_M lan_M siz_M itm_M tap_M now_M tri_M R.2.2.2 kp_M bes_M ∧ ∀ j, (j < 64 ∨ 74 ≤ j) → E j = E0 j) := by
  refine MI.mk (by decide) rfl (Nat.le_of_ble_eq_true rfl) ?_
  intro p e s m args below meth c ls Q X hret hP hS hl
  have hl : lv_has ls 4 [(0, .ref (qa 64))] := hl
  have hfr : ∀ j, (j < 64 ∨ 74 ≤ j) → E0 j = E0 j := fun _ _ => rfl
  rw [fX6_isMedalItem] at hf
  refine lv_aload_n X.1 X.2.1 dX6_isMedalItem_0 rfl (lv_at hl 0 rfl) ?_
  obtain ⟨r1, hr1, hf⟩ := bd_of hf
  refine x_callVi X hP hS hG_M.1 (by omega) rfl (n := 0) (As := []) (ct_X6_peek hG_M hr1) gX6_isMedalItem_X6_peek rfl (by decide +kernel) ⟨by decide, by decide⟩ rfl hl.1 rfl (Nat.le_of_ble_eq_true rfl) dX6_isMedalItem_1 (fun E H locs hp hP hS => ?_)
  obtain ⟨hW_M, hk⟩ := hp
  have hG_M := hW_M
  have hfr : ∀ j, (j < 64 ∨ 74 ≤ j) → E j = E0 j := fun j o0 => (hk j (by omega)).trans (hfr j o0)
  obtain ⟨r2, hr2, hf⟩ := bd_of hf
  refine x_rdSi X hP hS (index := 101) (n := 1) (As := [.int r1.1]) (ct_X6_kindBy  hr2) ggX6_isMedalItem_X6_kindBy (by decide +kernel) (by decide +kernel) (by decide +kernel) rfl (by decide +kernel) ⟨by decide, by decide⟩ rfl hl.1 rfl (Nat.le_of_ble_eq_true rfl) dX6_isMedalItem_4 (fun H locs hP hS => ?_)
  refine lv_istore_n (lv' := [(1, .int r2), (0, .ref (qa 64))]) X.1 X.2.1 dX6_isMedalItem_7 rfl hl (by decide) rfl (fun ls hl => ?_)
  refine lv_iload_n X.1 X.2.1 dX6_isMedalItem_8 rfl (lv_at hl 0 rfl) ?_
  refine lv_if_ge (tgt := 14) X.1 X.2.1 dX6_isMedalItem_9 (by decide) (fun c3 => ?_) (fun c3 => ?_)
  · have hf := ifp hf c3
    refine lv_aload_n X.1 X.2.1 dX6_isMedalItem_14 rfl (lv_at hl 1 rfl) ?_
    refine lv_dup X.1 X.2.1 dX6_isMedalItem_15 rfl ?_
    refine x_get X hP hG_M.1 (by omega) rfl in_X6_isMedalItem_X6 5 (by decide) (by decide +kernel) rfl rfl dX6_isMedalItem_16 ?_
    refine lv_iconst (v := 1) X.1 X.2.1 dX6_isMedalItem_19 (by decide) ?_
    refine lv_iadd X.1 X.2.1 dX6_isMedalItem_20 ?_
    refine x_put (ty := .int) X hP hS hG_M.1 (by omega) rfl in_X6_isMedalItem_X6 tyX6 tyX6_ok nmX6 5 (by decide) (by decide +kernel) rfl rfl (by decide +kernel) rfl rfl (Nat.le_of_ble_eq_true rfl) dX6_isMedalItem_21 (fun E H locs h1 hk hP hS => ?_)
    have hG_M := Mo_set_0 hG_M h1 hk
    have hfr : ∀ j, (j < 64 ∨ 74 ≤ j) → E j = E0 j := fun j o0 => (hk j (by omega)).trans (hfr j o0)
    refine lv_aload_n X.1 X.2.1 dX6_isMedalItem_24 rfl (lv_at hl 1 rfl) ?_
    refine lv_iconst (v := 1) X.1 X.2.1 dX6_isMedalItem_25 (by decide) ?_
    refine lv_bipush (v := 20) X.1 X.2.1 dX6_isMedalItem_26 (by decide) ?_
    obtain ⟨r4, hr4, hf⟩ := bd_of hf
    refine x_callVi X hP hS hG_M.1 (by omega) rfl (n := 2) (As := [.int 1, .int 20]) (ct_X6_isNumber hG_M hr4) gX6_isMedalItem_X6_isNumber rfl (by decide +kernel) ⟨by decide, by decide⟩ rfl hl.1 rfl (Nat.le_of_ble_eq_true rfl) dX6_isMedalItem_28 (fun E H locs hp hP hS => ?_)
    obtain ⟨hW_M, hk⟩ := hp
    have hG_M := hW_M
    have hfr : ∀ j, (j < 64 ∨ 74 ≤ j) → E j = E0 j := fun j o0 => (hk j (by omega)).trans (hfr j o0)
    refine lv_if_ne (tgt := 36) X.1 X.2.1 dX6_isMedalItem_31 (by decide) (fun c5 => ?_) (fun c5 => ?_)
    · have hf := ifn hf c5
      refine lv_aload_n X.1 X.2.1 dX6_isMedalItem_36 rfl (lv_at hl 1 rfl) ?_
      refine x_get X hP hG_M.1 (by omega) rfl in_X6_isMedalItem_X6 6 (by decide) (by decide +kernel) rfl rfl dX6_isMedalItem_37 ?_
      obtain ⟨x6, ex6, hf⟩ := nm_of hf
      refine lv_top_as ex6 ?_
      refine lv_istore_n (lv' := [(2, .int x6), (1, .int r2), (0, .ref (qa 64))]) X.1 X.2.1 dX6_isMedalItem_40 rfl hl (by decide) rfl (fun ls hl => ?_)
      refine lv_aload_n X.1 X.2.1 dX6_isMedalItem_41 rfl (lv_at hl 2 rfl) ?_
      refine lv_bipush (v := 58) X.1 X.2.1 dX6_isMedalItem_42 (by decide) ?_
      obtain ⟨r7, hr7, hf⟩ := bd_of hf
      refine x_callVi X hP hS hG_M.1 (by omega) rfl (n := 1) (As := [.int 58]) (ct_X6_isSign hG_M hr7) gX6_isMedalItem_X6_isSign rfl (by decide +kernel) ⟨by decide, by decide⟩ rfl hl.1 rfl (Nat.le_of_ble_eq_true rfl) dX6_isMedalItem_44 (fun E H locs hp hP hS => ?_)
      obtain ⟨hW_M, hk⟩ := hp
      have hG_M := hW_M
      have hfr : ∀ j, (j < 64 ∨ 74 ≤ j) → E j = E0 j := fun j o0 => (hk j (by omega)).trans (hfr j o0)
      refine lv_if_eq (tgt := 67) X.1 X.2.1 dX6_isMedalItem_47 (by decide) (fun c8 => ?_) (fun c8 => ?_)
      · have hf := ifp hf c8
        refine lv_iconst (v := 0) X.1 X.2.1 dX6_isMedalItem_67 (by decide) ?_
        obtain rfl := Option.some.inj hf
        exact hret _ _ _ _ _ _ dX6_isMedalItem_68 rfl rfl (⟨hG_M, hfr⟩) hP hS
      · have hf := ifn hf c8
        refine lv_aload_n X.1 X.2.1 dX6_isMedalItem_50 rfl (lv_at hl 2 rfl) ?_
        refine lv_iconst (v := 0) X.1 X.2.1 dX6_isMedalItem_51 (by decide) ?_
        refine lv_aload_n X.1 X.2.1 dX6_isMedalItem_52 rfl (lv_at hl 2 rfl) ?_
        refine x_get X hP hG_M.1 (by omega) rfl in_X6_isMedalItem_X6 9 (by decide) (by decide +kernel) rfl rfl dX6_isMedalItem_53 ?_
        refine lv_bipush (v := 19) X.1 X.2.1 dX6_isMedalItem_56 (by decide) ?_
        obtain ⟨hi9, hf⟩ := gin_of hf
        refine x_iald X hP hG_M.2.2.2.2.2.2.2.1 (by omega) hi9 dX6_isMedalItem_58 ?_
        refine lv_iconst (v := 1) X.1 X.2.1 dX6_isMedalItem_59 (by decide) ?_
        refine lv_isub X.1 X.2.1 dX6_isMedalItem_60 ?_
        obtain ⟨r10, hr10, hf⟩ := bd_of hf
        refine x_callVi X hP hS hG_M.1 (by omega) rfl (n := 2) (As := [.int 0, .int ((rd_M (Int32.toNatClampNeg 19)) - 1)]) (ct_X6_isDigit hG_M hr10) gX6_isMedalItem_X6_isDigit rfl (by decide +kernel) ⟨by decide, by decide⟩ rfl hl.1 rfl (Nat.le_of_ble_eq_true rfl) dX6_isMedalItem_61 (fun E H locs hp hP hS => ?_)
        obtain ⟨hW_M, hk⟩ := hp
        have hG_M := hW_M
        have hfr : ∀ j, (j < 64 ∨ 74 ≤ j) → E j = E0 j := fun j o0 => (hk j (by omega)).trans (hfr j o0)
        refine lv_if_ne (tgt := 69) X.1 X.2.1 dX6_isMedalItem_64 (by decide) (fun c11 => ?_) (fun c11 => ?_)
        · have hf := ifn hf c11
          refine lv_aload_n X.1 X.2.1 dX6_isMedalItem_69 rfl (lv_at hl 2 rfl) ?_
          refine x_get X hP hG_M.1 (by omega) rfl in_X6_isMedalItem_X6 9 (by decide) (by decide +kernel) rfl rfl dX6_isMedalItem_70 ?_
          refine lv_iload_n X.1 X.2.1 dX6_isMedalItem_73 rfl (lv_at hl 1 rfl) ?_
          refine lv_iload_n X.1 X.2.1 dX6_isMedalItem_74 rfl (lv_at hl 0 rfl) ?_
          refine lv_aload_n X.1 X.2.1 dX6_isMedalItem_75 rfl (lv_at hl 2 rfl) ?_
          refine x_get X hP hG_M.1 (by omega) rfl in_X6_isMedalItem_X6 6 (by decide) (by decide +kernel) rfl rfl dX6_isMedalItem_76 ?_
          obtain ⟨r12, hr12, hf⟩ := bd_of hf
          refine x_callSi X hP hS (index := 50) (n := 4) (As := [.ref (qa (64 + 7)), .int r2, .int x6, .int r10.2.2]) (ct_X6_addMedal (by omega) hG_M.2.2.2.2.2.2.2.1 hr12) ggX6_isMedalItem_X6_addMedal (by decide +kernel) (by decide +kernel) (by decide +kernel) rfl (by decide +kernel) ⟨by decide, by decide⟩ rfl hl.1 rfl (Nat.le_of_ble_eq_true rfl) dX6_isMedalItem_79 (fun E H locs hp hP hS => ?_)
          obtain ⟨hW_s, hk⟩ := hp
          have hG_M := Mo_set_7 hG_M hW_s hk
          have hfr : ∀ j, (j < 64 ∨ 74 ≤ j) → E j = E0 j := fun j o0 => (hk j (by omega)).trans (hfr j o0)
          obtain ⟨x13, ex13, hf⟩ := nm_of hf
          refine lv_top_as ex13 ?_
          refine lv_istore_n (lv' := [(3, .int x13), (2, .int x6), (1, .int r2), (0, .ref (qa 64))]) X.1 X.2.1 dX6_isMedalItem_82 rfl hl (by decide) rfl (fun ls hl => ?_)
          refine lv_aload_n X.1 X.2.1 dX6_isMedalItem_83 rfl (lv_at hl 3 rfl) ?_
          refine lv_bipush (v := 64) X.1 X.2.1 dX6_isMedalItem_84 (by decide) ?_
          obtain ⟨r14, hr14, hf⟩ := bd_of hf
          refine x_callVi X hP hS hG_M.1 (by omega) rfl (n := 1) (As := [.int 64]) (ct_X6_isSign hG_M hr14) gX6_isMedalItem_X6_isSign rfl (by decide +kernel) ⟨by decide, by decide⟩ rfl hl.1 rfl (Nat.le_of_ble_eq_true rfl) dX6_isMedalItem_86 (fun E H locs hp hP hS => ?_)
          obtain ⟨hW_M, hk⟩ := hp
          have hG_M := hW_M
          have hfr : ∀ j, (j < 64 ∨ 74 ≤ j) → E j = E0 j := fun j o0 => (hk j (by omega)).trans (hfr j o0)
          refine lv_if_eq (tgt := 124) X.1 X.2.1 dX6_isMedalItem_89 (by decide) (fun c15 => ?_) (fun c15 => ?_)
          · have hf := ifp hf c15
            refine lv_iconst (v := 1) X.1 X.2.1 dX6_isMedalItem_124 (by decide) ?_
            obtain rfl := Option.some.inj hf
            exact hret _ _ _ _ _ _ dX6_isMedalItem_125 rfl rfl (⟨hG_M, hfr⟩) hP hS
          · have hf := ifn hf c15
            refine lv_aload_n X.1 X.2.1 dX6_isMedalItem_92 rfl (lv_at hl 3 rfl) ?_
            refine lv_iconst (v := 0) X.1 X.2.1 dX6_isMedalItem_93 (by decide) ?_
            refine lv_aload_n X.1 X.2.1 dX6_isMedalItem_94 rfl (lv_at hl 3 rfl) ?_
            refine x_get X hP hG_M.1 (by omega) rfl in_X6_isMedalItem_X6 9 (by decide) (by decide +kernel) rfl rfl dX6_isMedalItem_95 ?_
            refine lv_bipush (v := 19) X.1 X.2.1 dX6_isMedalItem_98 (by decide) ?_
            obtain ⟨hi16, hf⟩ := gin_of hf
            refine x_iald X hP hG_M.2.2.2.2.2.2.2.1 (by omega) hi16 dX6_isMedalItem_100 ?_
            refine lv_iconst (v := 1) X.1 X.2.1 dX6_isMedalItem_101 (by decide) ?_
            refine lv_isub X.1 X.2.1 dX6_isMedalItem_102 ?_
            obtain ⟨r17, hr17, hf⟩ := bd_of hf
            refine x_callVi X hP hS hG_M.1 (by omega) rfl (n := 2) (As := [.int 0, .int ((r12.2 (Int32.toNatClampNeg 19)) - 1)]) (ct_X6_isDigit hG_M hr17) gX6_isMedalItem_X6_isDigit rfl (by decide +kernel) ⟨by decide, by decide⟩ rfl hl.1 rfl (Nat.le_of_ble_eq_true rfl) dX6_isMedalItem_103 (fun E H locs hp hP hS => ?_)
            obtain ⟨hW_M, hk⟩ := hp
            have hG_M := hW_M
            have hfr : ∀ j, (j < 64 ∨ 74 ≤ j) → E j = E0 j := fun j o0 => (hk j (by omega)).trans (hfr j o0)
            refine lv_if_ne (tgt := 111) X.1 X.2.1 dX6_isMedalItem_106 (by decide) (fun c18 => ?_) (fun c18 => ?_)
            · have hf := ifn hf c18
              refine lv_aload_n X.1 X.2.1 dX6_isMedalItem_111 rfl (lv_at hl 3 rfl) ?_
              refine x_get X hP hG_M.1 (by omega) rfl in_X6_isMedalItem_X6 9 (by decide) (by decide +kernel) rfl rfl dX6_isMedalItem_112 ?_
              refine lv_bipush (v := 13) X.1 X.2.1 dX6_isMedalItem_115 (by decide) ?_
              refine lv_iload_n X.1 X.2.1 dX6_isMedalItem_117 rfl (lv_at hl 0 rfl) ?_
              refine lv_iadd X.1 X.2.1 dX6_isMedalItem_118 ?_
              refine lv_aload_n X.1 X.2.1 dX6_isMedalItem_119 rfl (lv_at hl 3 rfl) ?_
              refine x_get X hP hG_M.1 (by omega) rfl in_X6_isMedalItem_X6 6 (by decide) (by decide +kernel) rfl rfl dX6_isMedalItem_120 ?_
              obtain ⟨hi19, hf⟩ := gin_of hf
              refine x_iast X hP hS hG_M.2.2.2.2.2.2.2.1 (by omega) hi19 dX6_isMedalItem_123 (fun E H locs h1 hk hP hS => ?_)
              have hG_M := Mo_set_7 hG_M h1 hk
              have hfr : ∀ j, (j < 64 ∨ 74 ≤ j) → E j = E0 j := fun j o0 => (hk j (by omega)).trans (hfr j o0)
              refine lv_iconst (v := 1) X.1 X.2.1 dX6_isMedalItem_124 (by decide) ?_
              obtain rfl := Option.some.inj hf
              exact hret _ _ _ _ _ _ dX6_isMedalItem_125 rfl rfl (⟨hG_M, hfr⟩) hP hS
            · have hf := ifp hf c18
              refine lv_iconst (v := 0) X.1 X.2.1 dX6_isMedalItem_109 (by decide) ?_
              obtain rfl := Option.some.inj hf
              exact hret _ _ _ _ _ _ dX6_isMedalItem_110 rfl rfl (⟨hG_M, hfr⟩) hP hS
        · have hf := ifp hf c11
          refine lv_iconst (v := 0) X.1 X.2.1 dX6_isMedalItem_67 (by decide) ?_
          obtain rfl := Option.some.inj hf
          exact hret _ _ _ _ _ _ dX6_isMedalItem_68 rfl rfl (⟨hG_M, hfr⟩) hP hS
    · have hf := ifp hf c5
      refine lv_iconst (v := 0) X.1 X.2.1 dX6_isMedalItem_34 (by decide) ?_
      obtain rfl := Option.some.inj hf
      exact hret _ _ _ _ _ _ dX6_isMedalItem_35 rfl rfl (⟨hG_M, hfr⟩) hP hS
  · have hf := ifn hf c3
    refine lv_iconst (v := 0) X.1 X.2.1 dX6_isMedalItem_12 (by decide) ?_
    obtain rfl := Option.some.inj hf
    exact hret _ _ _ _ _ _ dX6_isMedalItem_13 rfl rfl (⟨hG_M, hfr⟩) hP hS
def bX6_isState_51 (ltr_M : Int32) (tap_M : Nat → Int32) (K5 : ((Int32 × Int32 × Int32 × (Nat → Int32))) → Option (Int32 × Int32 × Int32 × (Nat → Int32))) : ((Int32 × Int32 × Int32 × (Nat → Int32))) → Option (Int32 × Int32 × Int32 × (Nat → Int32))
  | (v1_5, pos_M_5, num_M_5, rd_M_5) => if v1_5 = 0 then ((fX6_peek ltr_M pos_M_5 tap_M).bind (fun r7 => if r7.1 = 0 then (some (1, r7.2, num_M_5, rd_M_5)) else (some (0, r7.2, num_M_5, rd_M_5)))) else ((fX6_isMedalItem ltr_M pos_M_5 num_M_5 tap_M rd_M_5).bind (fun r9 => if r9.1 = 0 then (some (0, r9.2.1, r9.2.2.1, r9.2.2.2)) else (gin 25 191 (if 6 ≤ (r9.2.2.2 (Int32.toNatClampNeg 25)) then (K5 (0, r9.2.1, r9.2.2.1, r9.2.2.2)) else ((fX6_isSign 44 ltr_M r9.2.1 tap_M).bind (fun r13 => if r13.1 = 0 then (K5 (0, r13.2, r9.2.2.1, r9.2.2.2)) else (K5 (1, r13.2, r9.2.2.1, r9.2.2.2))))))))
def bX6_isState_2 (ltr_M : Int32) (tap_M : Nat → Int32) (K1 : ((Int32 × Int32 × Int32 × (Nat → Int32))) → Option (Int32 × Int32 × Int32 × (Nat → Int32))) : ((Int32 × Int32 × Int32 × (Nat → Int32))) → Option (Int32 × Int32 × Int32 × (Nat → Int32))
  | (v1_1, pos_M_1, num_M_1, rd_M_1) => if v1_1 = 0 then ((fX6_isSign 59 ltr_M pos_M_1 tap_M).bind (fun r3 => nm (r3.1) (fun x4 => lp (bX6_isState_51 ltr_M tap_M) FU (x4, r3.2, num_M_1, rd_M_1)))) else ((fX6_isManItem ltr_M pos_M_1 tap_M rd_M_1).bind (fun r15 => if r15.1 = 0 then (some (0, r15.2.1, r15.2.2.1, r15.2.2.2)) else (gin 19 191 (if 5 ≤ (r15.2.2.2 (Int32.toNatClampNeg 19)) then (K1 (0, r15.2.1, r15.2.2.1, r15.2.2.2)) else ((fX6_isSign 44 ltr_M r15.2.1 tap_M).bind (fun r19 => if r19.1 = 0 then (K1 (0, r19.2, r15.2.2.1, r15.2.2.2)) else (K1 (1, r19.2, r15.2.2.1, r15.2.2.2))))))))
def fX6_isState   (ltr_M : Int32) (pos_M : Int32) (num_M : Int32) (tap_M : Nat → Int32) (rd_M : Nat → Int32) : Option (Int32 × Int32 × Int32 × (Nat → Int32)) := lp (bX6_isState_2 ltr_M tap_M) FU (1, pos_M, num_M, rd_M)
theorem in_X6_isState_X6 : ∀ w ∈ wsX60, w ∈ wsX6_isState := by decide +kernel
set_option maxHeartbeats 4000000 in
set_option maxRecDepth 100000 in
theorem ct_X6_isState {l : Launch} {D : va_G} {g : Nat → ClassId} {qa : Nat → Nat} {E0 : Nat → va_E} {ltr_M : Int32} {pos_M : Int32} {num_M : Int32} {isk_M : Int32} {bm_M : Int32} {bch_M : Int32} {lan_M : Nat → Int32} {siz_M : Nat → Int32} {itm_M : Nat → Int64} {tap_M : Nat → Int32} {now_M : Nat → Int32} {tri_M : Nat → Int32} {rd_M : Nat → Int32} {kp_M : Nat → Int32} {bes_M : Nat → Int32} (hG_M : Mo g qa E0 64 ltr_M pos_M num_M isk_M bm_M bch_M lan_M siz_M itm_M tap_M now_M tri_M rd_M kp_M bes_M) {R : (Int32 × Int32 × Int32 × (Nat → Int32))} (hf : fX6_isState ltr_M pos_M num_M tap_M rd_M = some R) : MI l yX6_isState wsX6_isState 4 D g qa E0 [.ref (qa 64)] R.1 (fun E => Mo g qa E 64 ltr_M R.2.1 R.2.2.1 isk_M bm_M bch_M lan_M siz_M itm_M tap_M now_M tri_M R.2.2.2 kp_M bes_M ∧ ∀ j, (j < 64 ∨ 74 ≤ j) → E j = E0 j) := by
  refine MI.mk (by decide) rfl (Nat.le_of_ble_eq_true rfl) ?_
  intro p e s m args below meth c ls Q X hret hP hS hl
  have hl : lv_has ls 2 [(0, .ref (qa 64))] := hl
  have hfr : ∀ j, (j < 64 ∨ 74 ≤ j) → E0 j = E0 j := fun _ _ => rfl
  rw [fX6_isState] at hf
  refine lv_iconst (v := 1) X.1 X.2.1 dX6_isState_0 (by decide) ?_
  refine lv_istore_n (lv' := [(1, .int 1), (0, .ref (qa 64))]) X.1 X.2.1 dX6_isState_1 rfl hl (by decide) rfl (fun ls hl => ?_)
  have lp1 : ∀ (n1 : Nat) (v1_1 : Int32) (pos_M_1 : Int32) (num_M_1 : Int32) (rd_M_1 : Nat → Int32) (E : Nat → va_E) (H : Heap) (locs : List Loc) (ls : Array Slot), lp (bX6_isState_2 ltr_M tap_M) n1 (v1_1, pos_M_1, num_M_1, rd_M_1) = some R → va_P D vwCl (WD qa E) H → va_S (gA qa s.heap.size) s.heap H locs → Mo g qa E 64 ltr_M pos_M_1 num_M_1 isk_M bm_M bch_M lan_M siz_M itm_M tap_M now_M tri_M rd_M_1 kp_M bes_M → (∀ j, (j < 64 ∨ 74 ≤ j) → E j = E0 j) → lv_has ls 2 [(0, .ref (qa 64)), (1, .int v1_1)] → W p l e (rmf 4) s m args below meth c H locs 0 0 Q (F0 m 2 ls []) := by
    intro n1
    induction n1 with
    | zero =>
      intro v1_1 pos_M_1 num_M_1 rd_M_1 E H locs ls hf
      exact absurd hf (by intro h; cases h)
    | succ n1 ih1 =>
      intro v1_1 pos_M_1 num_M_1 rd_M_1 E H locs ls hf hP hS hG_M hfr hl
      have hf : bX6_isState_2 ltr_M tap_M (lp (bX6_isState_2 ltr_M tap_M) n1) (v1_1, pos_M_1, num_M_1, rd_M_1) = some R := hf
      rw [bX6_isState_2] at hf
      refine lv_iload_n X.1 X.2.1 dX6_isState_2 rfl (lv_at hl 1 rfl) ?_
      refine lv_if_eq (tgt := 44) X.1 X.2.1 dX6_isState_3 (by decide) (fun c2 => ?_) (fun c2 => ?_)
      · have hf := ifp hf c2
        refine lv_aload_n X.1 X.2.1 dX6_isState_44 rfl (lv_at hl 0 rfl) ?_
        refine lv_bipush (v := 59) X.1 X.2.1 dX6_isState_45 (by decide) ?_
        obtain ⟨r3, hr3, hf⟩ := bd_of hf
        refine x_callVi X hP hS hG_M.1 (by omega) rfl (n := 1) (As := [.int 59]) (ct_X6_isSign hG_M hr3) gX6_isState_X6_isSign rfl (by decide +kernel) ⟨by decide, by decide⟩ rfl hl.1 rfl (Nat.le_of_ble_eq_true rfl) dX6_isState_47 (fun E H locs hp hP hS => ?_)
        obtain ⟨hW_M, hk⟩ := hp
        have hG_M := hW_M
        have hfr : ∀ j, (j < 64 ∨ 74 ≤ j) → E j = E0 j := fun j o0 => (hk j (by omega)).trans (hfr j o0)
        obtain ⟨x4, ex4, hf⟩ := nm_of hf
        refine lv_top_as ex4 ?_
        refine lv_istore_n (lv' := [(1, .int x4), (0, .ref (qa 64))]) X.1 X.2.1 dX6_isState_50 rfl hl (by decide) rfl (fun ls hl => ?_)
        have lp5 : ∀ (n5 : Nat) (v1_5 : Int32) (pos_M_5 : Int32) (num_M_5 : Int32) (rd_M_5 : Nat → Int32) (E : Nat → va_E) (H : Heap) (locs : List Loc) (ls : Array Slot), lp (bX6_isState_51 ltr_M tap_M) n5 (v1_5, pos_M_5, num_M_5, rd_M_5) = some R → va_P D vwCl (WD qa E) H → va_S (gA qa s.heap.size) s.heap H locs → Mo g qa E 64 ltr_M pos_M_5 num_M_5 isk_M bm_M bch_M lan_M siz_M itm_M tap_M now_M tri_M rd_M_5 kp_M bes_M → (∀ j, (j < 64 ∨ 74 ≤ j) → E j = E0 j) → lv_has ls 2 [(0, .ref (qa 64)), (1, .int v1_5)] → W p l e (rmf 4) s m args below meth c H locs 0 0 Q (F0 m 51 ls []) := by
          intro n5
          induction n5 with
          | zero =>
            intro v1_5 pos_M_5 num_M_5 rd_M_5 E H locs ls hf
            exact absurd hf (by intro h; cases h)
          | succ n5 ih5 =>
            intro v1_5 pos_M_5 num_M_5 rd_M_5 E H locs ls hf hP hS hG_M hfr hl
            have hf : bX6_isState_51 ltr_M tap_M (lp (bX6_isState_51 ltr_M tap_M) n5) (v1_5, pos_M_5, num_M_5, rd_M_5) = some R := hf
            rw [bX6_isState_51] at hf
            refine lv_iload_n X.1 X.2.1 dX6_isState_51 rfl (lv_at hl 1 rfl) ?_
            refine lv_if_eq (tgt := 94) X.1 X.2.1 dX6_isState_52 (by decide) (fun c6 => ?_) (fun c6 => ?_)
            · have hf := ifp hf c6
              refine lv_aload_n X.1 X.2.1 dX6_isState_94 rfl (lv_at hl 0 rfl) ?_
              obtain ⟨r7, hr7, hf⟩ := bd_of hf
              refine x_callVi X hP hS hG_M.1 (by omega) rfl (n := 0) (As := []) (ct_X6_peek hG_M hr7) gX6_isState_X6_peek rfl (by decide +kernel) ⟨by decide, by decide⟩ rfl hl.1 rfl (Nat.le_of_ble_eq_true rfl) dX6_isState_95 (fun E H locs hp hP hS => ?_)
              obtain ⟨hW_M, hk⟩ := hp
              have hG_M := hW_M
              have hfr : ∀ j, (j < 64 ∨ 74 ≤ j) → E j = E0 j := fun j o0 => (hk j (by omega)).trans (hfr j o0)
              refine lv_if_ne (tgt := 105) X.1 X.2.1 dX6_isState_98 (by decide) (fun c8 => ?_) (fun c8 => ?_)
              · have hf := ifn hf c8
                refine lv_iconst (v := 0) X.1 X.2.1 dX6_isState_105 (by decide) ?_
                obtain rfl := Option.some.inj hf
                exact hret _ _ _ _ _ _ dX6_isState_106 rfl rfl (⟨hG_M, hfr⟩) hP hS
              · have hf := ifp hf c8
                refine lv_iconst (v := 1) X.1 X.2.1 dX6_isState_101 (by decide) ?_
                refine lv_goto (tgt := 106) X.1 X.2.1 dX6_isState_102 (by decide) ?_
                obtain rfl := Option.some.inj hf
                exact hret _ _ _ _ _ _ dX6_isState_106 rfl rfl (⟨hG_M, hfr⟩) hP hS
            · have hf := ifn hf c6
              refine lv_aload_n X.1 X.2.1 dX6_isState_55 rfl (lv_at hl 0 rfl) ?_
              obtain ⟨r9, hr9, hf⟩ := bd_of hf
              refine x_callVi X hP hS hG_M.1 (by omega) rfl (n := 0) (As := []) (ct_X6_isMedalItem hG_M hr9) gX6_isState_X6_isMedalItem rfl (by decide +kernel) ⟨by decide, by decide⟩ rfl hl.1 rfl (Nat.le_of_ble_eq_true rfl) dX6_isState_56 (fun E H locs hp hP hS => ?_)
              obtain ⟨hW_M, hk⟩ := hp
              have hG_M := hW_M
              have hfr : ∀ j, (j < 64 ∨ 74 ≤ j) → E j = E0 j := fun j o0 => (hk j (by omega)).trans (hfr j o0)
              refine lv_if_ne (tgt := 64) X.1 X.2.1 dX6_isState_59 (by decide) (fun c10 => ?_) (fun c10 => ?_)
              · have hf := ifn hf c10
                refine lv_aload_n X.1 X.2.1 dX6_isState_64 rfl (lv_at hl 0 rfl) ?_
                refine x_get X hP hG_M.1 (by omega) rfl in_X6_isState_X6 9 (by decide) (by decide +kernel) rfl rfl dX6_isState_65 ?_
                refine lv_bipush (v := 25) X.1 X.2.1 dX6_isState_68 (by decide) ?_
                obtain ⟨hi11, hf⟩ := gin_of hf
                refine x_iald X hP hG_M.2.2.2.2.2.2.2.1 (by omega) hi11 dX6_isState_70 ?_
                refine lv_bipush (v := 6) X.1 X.2.1 dX6_isState_71 (by decide) ?_
                refine lv_icmp_ge (tgt := 89) X.1 X.2.1 dX6_isState_73 (by decide) (fun c12 => ?_) (fun c12 => ?_)
                · have hf := ifp hf c12
                  refine lv_iconst (v := 0) X.1 X.2.1 dX6_isState_89 (by decide) ?_
                  refine lv_istore_n (lv' := [(1, .int 0), (0, .ref (qa 64))]) X.1 X.2.1 dX6_isState_90 rfl hl (by decide) rfl (fun ls hl => ?_)
                  refine lv_goto (tgt := 51) X.1 X.2.1 dX6_isState_91 (by decide) ?_
                  exact ih5 0 r9.2.1 r9.2.2.1 r9.2.2.2 _ _ _ _ hf hP hS hG_M hfr (lv_sub hl [1, 0] rfl)
                · have hf := ifn hf c12
                  refine lv_aload_n X.1 X.2.1 dX6_isState_76 rfl (lv_at hl 0 rfl) ?_
                  refine lv_bipush (v := 44) X.1 X.2.1 dX6_isState_77 (by decide) ?_
                  obtain ⟨r13, hr13, hf⟩ := bd_of hf
                  refine x_callVi X hP hS hG_M.1 (by omega) rfl (n := 1) (As := [.int 44]) (ct_X6_isSign hG_M hr13) gX6_isState_X6_isSign rfl (by decide +kernel) ⟨by decide, by decide⟩ rfl hl.1 rfl (Nat.le_of_ble_eq_true rfl) dX6_isState_79 (fun E H locs hp hP hS => ?_)
                  obtain ⟨hW_M, hk⟩ := hp
                  have hG_M := hW_M
                  have hfr : ∀ j, (j < 64 ∨ 74 ≤ j) → E j = E0 j := fun j o0 => (hk j (by omega)).trans (hfr j o0)
                  refine lv_if_eq (tgt := 89) X.1 X.2.1 dX6_isState_82 (by decide) (fun c14 => ?_) (fun c14 => ?_)
                  · have hf := ifp hf c14
                    refine lv_iconst (v := 0) X.1 X.2.1 dX6_isState_89 (by decide) ?_
                    refine lv_istore_n (lv' := [(1, .int 0), (0, .ref (qa 64))]) X.1 X.2.1 dX6_isState_90 rfl hl (by decide) rfl (fun ls hl => ?_)
                    refine lv_goto (tgt := 51) X.1 X.2.1 dX6_isState_91 (by decide) ?_
                    exact ih5 0 r13.2 r9.2.2.1 r9.2.2.2 _ _ _ _ hf hP hS hG_M hfr (lv_sub hl [1, 0] rfl)
                  · have hf := ifn hf c14
                    refine lv_iconst (v := 1) X.1 X.2.1 dX6_isState_85 (by decide) ?_
                    refine lv_goto (tgt := 90) X.1 X.2.1 dX6_isState_86 (by decide) ?_
                    refine lv_istore_n (lv' := [(1, .int 1), (0, .ref (qa 64))]) X.1 X.2.1 dX6_isState_90 rfl hl (by decide) rfl (fun ls hl => ?_)
                    refine lv_goto (tgt := 51) X.1 X.2.1 dX6_isState_91 (by decide) ?_
                    exact ih5 1 r13.2 r9.2.2.1 r9.2.2.2 _ _ _ _ hf hP hS hG_M hfr (lv_sub hl [1, 0] rfl)
              · have hf := ifp hf c10
                refine lv_iconst (v := 0) X.1 X.2.1 dX6_isState_62 (by decide) ?_
                obtain rfl := Option.some.inj hf
                exact hret _ _ _ _ _ _ dX6_isState_63 rfl rfl (⟨hG_M, hfr⟩) hP hS
        exact lp5 FU x4 r3.2 num_M_1 rd_M_1 _ _ _ _ hf hP hS hG_M hfr (lv_sub hl [1, 0] rfl)
      · have hf := ifn hf c2
        refine lv_aload_n X.1 X.2.1 dX6_isState_6 rfl (lv_at hl 0 rfl) ?_
        obtain ⟨r15, hr15, hf⟩ := bd_of hf
        refine x_callVi X hP hS hG_M.1 (by omega) rfl (n := 0) (As := []) (ct_X6_isManItem hG_M hr15) gX6_isState_X6_isManItem rfl (by decide +kernel) ⟨by decide, by decide⟩ rfl hl.1 rfl (Nat.le_of_ble_eq_true rfl) dX6_isState_7 (fun E H locs hp hP hS => ?_)
        obtain ⟨hW_M, hk⟩ := hp
        have hG_M := hW_M
        have hfr : ∀ j, (j < 64 ∨ 74 ≤ j) → E j = E0 j := fun j o0 => (hk j (by omega)).trans (hfr j o0)
        refine lv_if_ne (tgt := 15) X.1 X.2.1 dX6_isState_10 (by decide) (fun c16 => ?_) (fun c16 => ?_)
        · have hf := ifn hf c16
          refine lv_aload_n X.1 X.2.1 dX6_isState_15 rfl (lv_at hl 0 rfl) ?_
          refine x_get X hP hG_M.1 (by omega) rfl in_X6_isState_X6 9 (by decide) (by decide +kernel) rfl rfl dX6_isState_16 ?_
          refine lv_bipush (v := 19) X.1 X.2.1 dX6_isState_19 (by decide) ?_
          obtain ⟨hi17, hf⟩ := gin_of hf
          refine x_iald X hP hG_M.2.2.2.2.2.2.2.1 (by omega) hi17 dX6_isState_21 ?_
          refine lv_iconst (v := 5) X.1 X.2.1 dX6_isState_22 (by decide) ?_
          refine lv_icmp_ge (tgt := 39) X.1 X.2.1 dX6_isState_23 (by decide) (fun c18 => ?_) (fun c18 => ?_)
          · have hf := ifp hf c18
            refine lv_iconst (v := 0) X.1 X.2.1 dX6_isState_39 (by decide) ?_
            refine lv_istore_n (lv' := [(1, .int 0), (0, .ref (qa 64))]) X.1 X.2.1 dX6_isState_40 rfl hl (by decide) rfl (fun ls hl => ?_)
            refine lv_goto (tgt := 2) X.1 X.2.1 dX6_isState_41 (by decide) ?_
            exact ih1 0 r15.2.1 r15.2.2.1 r15.2.2.2 _ _ _ _ hf hP hS hG_M hfr (lv_sub hl [1, 0] rfl)
          · have hf := ifn hf c18
            refine lv_aload_n X.1 X.2.1 dX6_isState_26 rfl (lv_at hl 0 rfl) ?_
            refine lv_bipush (v := 44) X.1 X.2.1 dX6_isState_27 (by decide) ?_
            obtain ⟨r19, hr19, hf⟩ := bd_of hf
            refine x_callVi X hP hS hG_M.1 (by omega) rfl (n := 1) (As := [.int 44]) (ct_X6_isSign hG_M hr19) gX6_isState_X6_isSign rfl (by decide +kernel) ⟨by decide, by decide⟩ rfl hl.1 rfl (Nat.le_of_ble_eq_true rfl) dX6_isState_29 (fun E H locs hp hP hS => ?_)
            obtain ⟨hW_M, hk⟩ := hp
            have hG_M := hW_M
            have hfr : ∀ j, (j < 64 ∨ 74 ≤ j) → E j = E0 j := fun j o0 => (hk j (by omega)).trans (hfr j o0)
            refine lv_if_eq (tgt := 39) X.1 X.2.1 dX6_isState_32 (by decide) (fun c20 => ?_) (fun c20 => ?_)
            · have hf := ifp hf c20
              refine lv_iconst (v := 0) X.1 X.2.1 dX6_isState_39 (by decide) ?_
              refine lv_istore_n (lv' := [(1, .int 0), (0, .ref (qa 64))]) X.1 X.2.1 dX6_isState_40 rfl hl (by decide) rfl (fun ls hl => ?_)
              refine lv_goto (tgt := 2) X.1 X.2.1 dX6_isState_41 (by decide) ?_
              exact ih1 0 r19.2 r15.2.2.1 r15.2.2.2 _ _ _ _ hf hP hS hG_M hfr (lv_sub hl [1, 0] rfl)
            · have hf := ifn hf c20
              refine lv_iconst (v := 1) X.1 X.2.1 dX6_isState_35 (by decide) ?_
              refine lv_goto (tgt := 40) X.1 X.2.1 dX6_isState_36 (by decide) ?_
              refine lv_istore_n (lv' := [(1, .int 1), (0, .ref (qa 64))]) X.1 X.2.1 dX6_isState_40 rfl hl (by decide) rfl (fun ls hl => ?_)
              refine lv_goto (tgt := 2) X.1 X.2.1 dX6_isState_41 (by decide) ?_
              exact ih1 1 r19.2 r15.2.2.1 r15.2.2.2 _ _ _ _ hf hP hS hG_M hfr (lv_sub hl [1, 0] rfl)
        · have hf := ifp hf c16
          refine lv_iconst (v := 0) X.1 X.2.1 dX6_isState_13 (by decide) ?_
          obtain rfl := Option.some.inj hf
          exact hret _ _ _ _ _ _ dX6_isState_14 rfl rfl (⟨hG_M, hfr⟩) hP hS
  exact lp1 FU 1 pos_M num_M rd_M _ _ _ _ hf hP hS hG_M hfr (lv_sub hl [1, 0] rfl)
def bX6_isUpright_20 (p1 : Int32) (p2 : Int32) (K3 : ((Int32 × Int32 × (Nat → Int32))) → Option (Int32 × (Nat → Int32))) : ((Int32 × Int32 × (Nat → Int32))) → Option (Int32 × (Nat → Int32))
  | (v3_3, v4_3, tri_M_3) => if p2 ≤ v4_3 then (gbz v3_3 (some (v3_3, tri_M_3))) else (if v3_3 = 0 then (gbz v3_3 (some (v3_3, tri_M_3))) else ((fX6_dayIn tri_M_3).bind (fun r8 => (fX6_isBent p1 r8).bind (fun r9 => if r9 = 0 then (nm (v4_3 + 1) (fun x12 => K3 (1, x12, r8))) else (nm (v4_3 + 1) (fun x11 => K3 (0, x11, r8)))))))
def bX6_isUpright_20_1 (p1 : Int32) (p2 : Int32) (K13 : ((Int32 × Int32 × (Nat → Int32))) → Option (Int32 × (Nat → Int32))) : ((Int32 × Int32 × (Nat → Int32))) → Option (Int32 × (Nat → Int32))
  | (v3_13, v4_13, tri_M_13) => if p2 ≤ v4_13 then (gbz v3_13 (some (v3_13, tri_M_13))) else (if v3_13 = 0 then (gbz v3_13 (some (v3_13, tri_M_13))) else ((fX6_dayIn tri_M_13).bind (fun r18 => (fX6_isBent p1 r18).bind (fun r19 => if r19 = 0 then (nm (v4_13 + 1) (fun x22 => K13 (1, x22, r18))) else (nm (v4_13 + 1) (fun x21 => K13 (0, x21, r18)))))))
def fX6_isUpright (p1 : Int32) (p2 : Int32)  (tri_M : Nat → Int32) : Option (Int32 × (Nat → Int32)) := (fX6_isBent p1 tri_M).bind (fun r1 => if r1 = 0 then (lp (bX6_isUpright_20_1 p1 p2) FU (1, 0, tri_M)) else (lp (bX6_isUpright_20 p1 p2) FU (0, 0, tri_M)))
theorem in_X6_isUpright_X6 : ∀ w ∈ wsX60, w ∈ wsX6_isUpright := by decide +kernel
set_option maxHeartbeats 4000000 in
set_option maxRecDepth 100000 in
theorem ct_X6_isUpright {l : Launch} {D : va_G} {g : Nat → ClassId} {qa : Nat → Nat} {E0 : Nat → va_E} {p1 : Int32} {p2 : Int32} {ltr_M : Int32} {pos_M : Int32} {num_M : Int32} {isk_M : Int32} {bm_M : Int32} {bch_M : Int32} {lan_M : Nat → Int32} {siz_M : Nat → Int32} {itm_M : Nat → Int64} {tap_M : Nat → Int32} {now_M : Nat → Int32} {tri_M : Nat → Int32} {rd_M : Nat → Int32} {kp_M : Nat → Int32} {bes_M : Nat → Int32} (hG_M : Mo g qa E0 64 ltr_M pos_M num_M isk_M bm_M bch_M lan_M siz_M itm_M tap_M now_M tri_M rd_M kp_M bes_M) {R : (Int32 × (Nat → Int32))} (hf : fX6_isUpright p1 p2 tri_M = some R) : MI l yX6_isUpright wsX6_isUpright 6 D g qa E0 [.ref (qa 64), .int p1, .int p2] R.1 (fun E => Mo g qa E 64 ltr_M pos_M num_M isk_M bm_M bch_M lan_M siz_M itm_M tap_M now_M R.2 rd_M kp_M bes_M ∧ ∀ j, (j < 64 ∨ 74 ≤ j) → E j = E0 j) := by
  refine MI.mk (by decide) rfl (Nat.le_of_ble_eq_true rfl) ?_
  intro p e s m args below meth c ls Q X hret hP hS hl
  have hl : lv_has ls 5 [(0, .ref (qa 64)), (1, .int p1), (2, .int p2)] := hl
  have hfr : ∀ j, (j < 64 ∨ 74 ≤ j) → E0 j = E0 j := fun _ _ => rfl
  rw [fX6_isUpright] at hf
  refine lv_aload_n X.1 X.2.1 dX6_isUpright_0 rfl (lv_at hl 0 rfl) ?_
  refine x_get X hP hG_M.1 (by omega) rfl in_X6_isUpright_X6 8 (by decide) (by decide +kernel) rfl rfl dX6_isUpright_1 ?_
  refine lv_iload_n X.1 X.2.1 dX6_isUpright_4 rfl (lv_at hl 1 rfl) ?_
  obtain ⟨r1, hr1, hf⟩ := bd_of hf
  refine x_rdSi X hP hS (index := 67) (n := 2) (As := [.ref (qa (64 + 6)), .int p1]) (ct_X6_isBent (by omega) hG_M.2.2.2.2.2.2.1 hr1) ggX6_isUpright_X6_isBent (by decide +kernel) (by decide +kernel) (by decide +kernel) rfl (by decide +kernel) ⟨by decide, by decide⟩ rfl hl.1 rfl (Nat.le_of_ble_eq_true rfl) dX6_isUpright_5 (fun H locs hP hS => ?_)
  refine lv_if_ne (tgt := 15) X.1 X.2.1 dX6_isUpright_8 (by decide) (fun c2 => ?_) (fun c2 => ?_)
  · have hf := ifn hf c2
    refine lv_iconst (v := 0) X.1 X.2.1 dX6_isUpright_15 (by decide) ?_
    refine lv_istore_n (lv' := [(3, .int 0), (0, .ref (qa 64)), (1, .int p1), (2, .int p2)]) X.1 X.2.1 dX6_isUpright_16 rfl hl (by decide) rfl (fun ls hl => ?_)
    refine lv_iconst (v := 0) X.1 X.2.1 dX6_isUpright_17 (by decide) ?_
    refine lv_istore (lv' := [(4, .int 0), (3, .int 0), (0, .ref (qa 64)), (1, .int p1), (2, .int p2)]) X.1 X.2.1 dX6_isUpright_18 hl (by decide) rfl (fun ls hl => ?_)
    have lp3 : ∀ (n3 : Nat) (v3_3 : Int32) (v4_3 : Int32) (tri_M_3 : Nat → Int32) (E : Nat → va_E) (H : Heap) (locs : List Loc) (ls : Array Slot), lp (bX6_isUpright_20 p1 p2) n3 (v3_3, v4_3, tri_M_3) = some R → va_P D vwCl (WD qa E) H → va_S (gA qa s.heap.size) s.heap H locs → Mo g qa E 64 ltr_M pos_M num_M isk_M bm_M bch_M lan_M siz_M itm_M tap_M now_M tri_M_3 rd_M kp_M bes_M → (∀ j, (j < 64 ∨ 74 ≤ j) → E j = E0 j) → lv_has ls 5 [(0, .ref (qa 64)), (1, .int p1), (2, .int p2), (3, .int v3_3), (4, .int v4_3)] → W p l e (rmf 6) s m args below meth c H locs 0 0 Q (F0 m 20 ls []) := by
      intro n3
      induction n3 with
      | zero =>
        intro v3_3 v4_3 tri_M_3 E H locs ls hf
        exact absurd hf (by intro h; cases h)
      | succ n3 ih3 =>
        intro v3_3 v4_3 tri_M_3 E H locs ls hf hP hS hG_M hfr hl
        have hf : bX6_isUpright_20 p1 p2 (lp (bX6_isUpright_20 p1 p2) n3) (v3_3, v4_3, tri_M_3) = some R := hf
        rw [bX6_isUpright_20] at hf
        refine lv_iload X.1 X.2.1 dX6_isUpright_20 (lv_at hl 4 rfl) ?_
        refine lv_iload_n X.1 X.2.1 dX6_isUpright_22 rfl (lv_at hl 2 rfl) ?_
        refine lv_icmp_ge (tgt := 60) X.1 X.2.1 dX6_isUpright_23 (by decide) (fun c4 => ?_) (fun c4 => ?_)
        · have hf := ifp hf c4
          refine lv_iload_n X.1 X.2.1 dX6_isUpright_60 rfl (lv_at hl 3 rfl) ?_
          obtain ⟨hb5, hf⟩ := gbz_of hf
          obtain rfl := Option.some.inj hf
          exact hret _ _ _ _ _ _ dX6_isUpright_61 (gbz_n hb5) rfl (⟨hG_M, hfr⟩) hP hS
        · have hf := ifn hf c4
          refine lv_iload_n X.1 X.2.1 dX6_isUpright_26 rfl (lv_at hl 3 rfl) ?_
          refine lv_if_eq (tgt := 60) X.1 X.2.1 dX6_isUpright_27 (by decide) (fun c6 => ?_) (fun c6 => ?_)
          · have hf := ifp hf c6
            refine lv_iload_n X.1 X.2.1 dX6_isUpright_60 rfl (lv_at hl 3 rfl) ?_
            obtain ⟨hb7, hf⟩ := gbz_of hf
            obtain rfl := Option.some.inj hf
            exact hret _ _ _ _ _ _ dX6_isUpright_61 (gbz_n hb7) rfl (⟨hG_M, hfr⟩) hP hS
          · have hf := ifn hf c6
            refine lv_aload_n X.1 X.2.1 dX6_isUpright_30 rfl (lv_at hl 0 rfl) ?_
            refine x_get X hP hG_M.1 (by omega) rfl in_X6_isUpright_X6 8 (by decide) (by decide +kernel) rfl rfl dX6_isUpright_31 ?_
            obtain ⟨r8, hr8, hf⟩ := bd_of hf
            refine x_callSv X hP hS (index := 131) (n := 1) (As := [.ref (qa (64 + 6))]) (ct_X6_dayIn (by omega) hG_M.2.2.2.2.2.2.1 hr8) ggX6_isUpright_X6_dayIn (by decide +kernel) (by decide +kernel) (by decide +kernel) rfl (by decide +kernel) ⟨by decide, by decide⟩ rfl hl.1 rfl (Nat.le_of_ble_eq_true rfl) dX6_isUpright_34 (fun E H locs hp hP hS => ?_)
            obtain ⟨hW_s, hk⟩ := hp
            have hG_M := Mo_set_6 hG_M hW_s hk
            have hfr : ∀ j, (j < 64 ∨ 74 ≤ j) → E j = E0 j := fun j o0 => (hk j (by omega)).trans (hfr j o0)
            refine lv_aload_n X.1 X.2.1 dX6_isUpright_37 rfl (lv_at hl 0 rfl) ?_
            refine x_get X hP hG_M.1 (by omega) rfl in_X6_isUpright_X6 8 (by decide) (by decide +kernel) rfl rfl dX6_isUpright_38 ?_
            refine lv_iload_n X.1 X.2.1 dX6_isUpright_41 rfl (lv_at hl 1 rfl) ?_
            obtain ⟨r9, hr9, hf⟩ := bd_of hf
            refine x_rdSi X hP hS (index := 67) (n := 2) (As := [.ref (qa (64 + 6)), .int p1]) (ct_X6_isBent (by omega) hG_M.2.2.2.2.2.2.1 hr9) ggX6_isUpright_X6_isBent (by decide +kernel) (by decide +kernel) (by decide +kernel) rfl (by decide +kernel) ⟨by decide, by decide⟩ rfl hl.1 rfl (Nat.le_of_ble_eq_true rfl) dX6_isUpright_42 (fun H locs hP hS => ?_)
            refine lv_if_ne (tgt := 52) X.1 X.2.1 dX6_isUpright_45 (by decide) (fun c10 => ?_) (fun c10 => ?_)
            · have hf := ifn hf c10
              refine lv_iconst (v := 0) X.1 X.2.1 dX6_isUpright_52 (by decide) ?_
              refine lv_istore_n (lv' := [(3, .int 0), (0, .ref (qa 64)), (1, .int p1), (2, .int p2), (4, .int v4_3)]) X.1 X.2.1 dX6_isUpright_53 rfl hl (by decide) rfl (fun ls hl => ?_)
              obtain ⟨x11, ex11, hf⟩ := nm_of hf
              refine lv_iinc (v := x11) (lv' := [(4, .int x11), (3, .int 0), (0, .ref (qa 64)), (1, .int p1), (2, .int p2)]) X.1 X.2.1 dX6_isUpright_54 hl (k := 4) rfl (by rw [ex11]; rfl) (by decide) rfl (fun ls hl => ?_)
              refine lv_goto (tgt := 20) X.1 X.2.1 dX6_isUpright_57 (by decide) ?_
              exact ih3 0 x11 r8 _ _ _ _ hf hP hS hG_M hfr (lv_sub hl [2, 3, 4, 1, 0] rfl)
            · have hf := ifp hf c10
              refine lv_iconst (v := 1) X.1 X.2.1 dX6_isUpright_48 (by decide) ?_
              refine lv_goto (tgt := 53) X.1 X.2.1 dX6_isUpright_49 (by decide) ?_
              refine lv_istore_n (lv' := [(3, .int 1), (0, .ref (qa 64)), (1, .int p1), (2, .int p2), (4, .int v4_3)]) X.1 X.2.1 dX6_isUpright_53 rfl hl (by decide) rfl (fun ls hl => ?_)
              obtain ⟨x12, ex12, hf⟩ := nm_of hf
              refine lv_iinc (v := x12) (lv' := [(4, .int x12), (3, .int 1), (0, .ref (qa 64)), (1, .int p1), (2, .int p2)]) X.1 X.2.1 dX6_isUpright_54 hl (k := 4) rfl (by rw [ex12]; rfl) (by decide) rfl (fun ls hl => ?_)
              refine lv_goto (tgt := 20) X.1 X.2.1 dX6_isUpright_57 (by decide) ?_
              exact ih3 1 x12 r8 _ _ _ _ hf hP hS hG_M hfr (lv_sub hl [2, 3, 4, 1, 0] rfl)
    exact lp3 FU 0 0 tri_M _ _ _ _ hf hP hS hG_M hfr (lv_sub hl [2, 3, 4, 1, 0] rfl)
  · have hf := ifp hf c2
    refine lv_iconst (v := 1) X.1 X.2.1 dX6_isUpright_11 (by decide) ?_
    refine lv_goto (tgt := 16) X.1 X.2.1 dX6_isUpright_12 (by decide) ?_
    refine lv_istore_n (lv' := [(3, .int 1), (0, .ref (qa 64)), (1, .int p1), (2, .int p2)]) X.1 X.2.1 dX6_isUpright_16 rfl hl (by decide) rfl (fun ls hl => ?_)
    refine lv_iconst (v := 0) X.1 X.2.1 dX6_isUpright_17 (by decide) ?_
    refine lv_istore (lv' := [(4, .int 0), (3, .int 1), (0, .ref (qa 64)), (1, .int p1), (2, .int p2)]) X.1 X.2.1 dX6_isUpright_18 hl (by decide) rfl (fun ls hl => ?_)
    have lp13 : ∀ (n13 : Nat) (v3_13 : Int32) (v4_13 : Int32) (tri_M_13 : Nat → Int32) (E : Nat → va_E) (H : Heap) (locs : List Loc) (ls : Array Slot), lp (bX6_isUpright_20_1 p1 p2) n13 (v3_13, v4_13, tri_M_13) = some R → va_P D vwCl (WD qa E) H → va_S (gA qa s.heap.size) s.heap H locs → Mo g qa E 64 ltr_M pos_M num_M isk_M bm_M bch_M lan_M siz_M itm_M tap_M now_M tri_M_13 rd_M kp_M bes_M → (∀ j, (j < 64 ∨ 74 ≤ j) → E j = E0 j) → lv_has ls 5 [(0, .ref (qa 64)), (1, .int p1), (2, .int p2), (3, .int v3_13), (4, .int v4_13)] → W p l e (rmf 6) s m args below meth c H locs 0 0 Q (F0 m 20 ls []) := by
      intro n13
      induction n13 with
      | zero =>
        intro v3_13 v4_13 tri_M_13 E H locs ls hf
        exact absurd hf (by intro h; cases h)
      | succ n13 ih13 =>
        intro v3_13 v4_13 tri_M_13 E H locs ls hf hP hS hG_M hfr hl
        have hf : bX6_isUpright_20_1 p1 p2 (lp (bX6_isUpright_20_1 p1 p2) n13) (v3_13, v4_13, tri_M_13) = some R := hf
        rw [bX6_isUpright_20_1] at hf
        refine lv_iload X.1 X.2.1 dX6_isUpright_20 (lv_at hl 4 rfl) ?_
        refine lv_iload_n X.1 X.2.1 dX6_isUpright_22 rfl (lv_at hl 2 rfl) ?_
        refine lv_icmp_ge (tgt := 60) X.1 X.2.1 dX6_isUpright_23 (by decide) (fun c14 => ?_) (fun c14 => ?_)
        · have hf := ifp hf c14
          refine lv_iload_n X.1 X.2.1 dX6_isUpright_60 rfl (lv_at hl 3 rfl) ?_
          obtain ⟨hb15, hf⟩ := gbz_of hf
          obtain rfl := Option.some.inj hf
          exact hret _ _ _ _ _ _ dX6_isUpright_61 (gbz_n hb15) rfl (⟨hG_M, hfr⟩) hP hS
        · have hf := ifn hf c14
          refine lv_iload_n X.1 X.2.1 dX6_isUpright_26 rfl (lv_at hl 3 rfl) ?_
          refine lv_if_eq (tgt := 60) X.1 X.2.1 dX6_isUpright_27 (by decide) (fun c16 => ?_) (fun c16 => ?_)
          · have hf := ifp hf c16
            refine lv_iload_n X.1 X.2.1 dX6_isUpright_60 rfl (lv_at hl 3 rfl) ?_
            obtain ⟨hb17, hf⟩ := gbz_of hf
            obtain rfl := Option.some.inj hf
            exact hret _ _ _ _ _ _ dX6_isUpright_61 (gbz_n hb17) rfl (⟨hG_M, hfr⟩) hP hS
          · have hf := ifn hf c16
            refine lv_aload_n X.1 X.2.1 dX6_isUpright_30 rfl (lv_at hl 0 rfl) ?_
            refine x_get X hP hG_M.1 (by omega) rfl in_X6_isUpright_X6 8 (by decide) (by decide +kernel) rfl rfl dX6_isUpright_31 ?_
            obtain ⟨r18, hr18, hf⟩ := bd_of hf
            refine x_callSv X hP hS (index := 131) (n := 1) (As := [.ref (qa (64 + 6))]) (ct_X6_dayIn (by omega) hG_M.2.2.2.2.2.2.1 hr18) ggX6_isUpright_X6_dayIn (by decide +kernel) (by decide +kernel) (by decide +kernel) rfl (by decide +kernel) ⟨by decide, by decide⟩ rfl hl.1 rfl (Nat.le_of_ble_eq_true rfl) dX6_isUpright_34 (fun E H locs hp hP hS => ?_)
            obtain ⟨hW_s, hk⟩ := hp
            have hG_M := Mo_set_6 hG_M hW_s hk
            have hfr : ∀ j, (j < 64 ∨ 74 ≤ j) → E j = E0 j := fun j o0 => (hk j (by omega)).trans (hfr j o0)
            refine lv_aload_n X.1 X.2.1 dX6_isUpright_37 rfl (lv_at hl 0 rfl) ?_
            refine x_get X hP hG_M.1 (by omega) rfl in_X6_isUpright_X6 8 (by decide) (by decide +kernel) rfl rfl dX6_isUpright_38 ?_
            refine lv_iload_n X.1 X.2.1 dX6_isUpright_41 rfl (lv_at hl 1 rfl) ?_
            obtain ⟨r19, hr19, hf⟩ := bd_of hf
            refine x_rdSi X hP hS (index := 67) (n := 2) (As := [.ref (qa (64 + 6)), .int p1]) (ct_X6_isBent (by omega) hG_M.2.2.2.2.2.2.1 hr19) ggX6_isUpright_X6_isBent (by decide +kernel) (by decide +kernel) (by decide +kernel) rfl (by decide +kernel) ⟨by decide, by decide⟩ rfl hl.1 rfl (Nat.le_of_ble_eq_true rfl) dX6_isUpright_42 (fun H locs hP hS => ?_)
            refine lv_if_ne (tgt := 52) X.1 X.2.1 dX6_isUpright_45 (by decide) (fun c20 => ?_) (fun c20 => ?_)
            · have hf := ifn hf c20
              refine lv_iconst (v := 0) X.1 X.2.1 dX6_isUpright_52 (by decide) ?_
              refine lv_istore_n (lv' := [(3, .int 0), (0, .ref (qa 64)), (1, .int p1), (2, .int p2), (4, .int v4_13)]) X.1 X.2.1 dX6_isUpright_53 rfl hl (by decide) rfl (fun ls hl => ?_)
              obtain ⟨x21, ex21, hf⟩ := nm_of hf
              refine lv_iinc (v := x21) (lv' := [(4, .int x21), (3, .int 0), (0, .ref (qa 64)), (1, .int p1), (2, .int p2)]) X.1 X.2.1 dX6_isUpright_54 hl (k := 4) rfl (by rw [ex21]; rfl) (by decide) rfl (fun ls hl => ?_)
              refine lv_goto (tgt := 20) X.1 X.2.1 dX6_isUpright_57 (by decide) ?_
              exact ih13 0 x21 r18 _ _ _ _ hf hP hS hG_M hfr (lv_sub hl [2, 3, 4, 1, 0] rfl)
            · have hf := ifp hf c20
              refine lv_iconst (v := 1) X.1 X.2.1 dX6_isUpright_48 (by decide) ?_
              refine lv_goto (tgt := 53) X.1 X.2.1 dX6_isUpright_49 (by decide) ?_
              refine lv_istore_n (lv' := [(3, .int 1), (0, .ref (qa 64)), (1, .int p1), (2, .int p2), (4, .int v4_13)]) X.1 X.2.1 dX6_isUpright_53 rfl hl (by decide) rfl (fun ls hl => ?_)
              obtain ⟨x22, ex22, hf⟩ := nm_of hf
              refine lv_iinc (v := x22) (lv' := [(4, .int x22), (3, .int 1), (0, .ref (qa 64)), (1, .int p1), (2, .int p2)]) X.1 X.2.1 dX6_isUpright_54 hl (k := 4) rfl (by rw [ex22]; rfl) (by decide) rfl (fun ls hl => ?_)
              refine lv_goto (tgt := 20) X.1 X.2.1 dX6_isUpright_57 (by decide) ?_
              exact ih13 1 x22 r18 _ _ _ _ hf hP hS hG_M hfr (lv_sub hl [2, 3, 4, 1, 0] rfl)
    exact lp13 FU 1 0 tri_M _ _ _ _ hf hP hS hG_M hfr (lv_sub hl [2, 3, 4, 1, 0] rfl)
def fX6_item (p1 : Int32) (p2 : Int32) (p3 : Int32) (p4 : Int64)  (lan_M : Nat → Int32) (siz_M : Nat → Int32) (itm_M : Nat → Int64) : Option (Int32 × (Nat → Int64)) := (fX6_isSheet p1).bind (fun r1 => if r1 = 0 then (some ((-1), itm_M)) else ((fX6_in p2 0 3).bind (fun r3 => if r3 = 0 then (some ((-1), itm_M)) else ((fX6_wrong p1 p2 p3 1 lan_M siz_M).bind (fun r5 => if r5 = 0 then (if p2 = 0 then (gin ((24 * p1) + p3) 96 (some (1, vp_updL itm_M (Int32.toNatClampNeg ((24 * p1) + p3)) (Int32.toInt64 ((Int32.toInt8 (Int64.toInt32 p4)).toInt32))))) else (if p2 = 1 then (gin ((24 * p1) + p3) 96 (some (1, vp_updL itm_M (Int32.toNatClampNeg ((24 * p1) + p3)) (Int32.toInt64 ((Int32.toInt16 (Int64.toInt32 p4)).toInt32))))) else (if p2 = 2 then (gin ((24 * p1) + p3) 96 (some (1, vp_updL itm_M (Int32.toNatClampNeg ((24 * p1) + p3)) (Int32.toInt64 (Int64.toInt32 p4))))) else (gin ((24 * p1) + p3) 96 (some (1, vp_updL itm_M (Int32.toNatClampNeg ((24 * p1) + p3)) p4)))))) else (some (r5, itm_M)))))))
theorem in_X6_item_X6 : ∀ w ∈ wsX60, w ∈ wsX6_item := by decide +kernel
set_option maxHeartbeats 4000000 in
set_option maxRecDepth 100000 in
theorem ct_X6_item {l : Launch} {D : va_G} {g : Nat → ClassId} {qa : Nat → Nat} {E0 : Nat → va_E} {p1 : Int32} {p2 : Int32} {p3 : Int32} {p4 : Int64} {ltr_M : Int32} {pos_M : Int32} {num_M : Int32} {isk_M : Int32} {bm_M : Int32} {bch_M : Int32} {lan_M : Nat → Int32} {siz_M : Nat → Int32} {itm_M : Nat → Int64} {tap_M : Nat → Int32} {now_M : Nat → Int32} {tri_M : Nat → Int32} {rd_M : Nat → Int32} {kp_M : Nat → Int32} {bes_M : Nat → Int32} (hG_M : Mo g qa E0 64 ltr_M pos_M num_M isk_M bm_M bch_M lan_M siz_M itm_M tap_M now_M tri_M rd_M kp_M bes_M) {R : (Int32 × (Nat → Int64))} (hf : fX6_item p1 p2 p3 p4 lan_M siz_M itm_M = some R) : MI l yX6_item wsX6_item 2 D g qa E0 [.ref (qa 64), .int p1, .int p2, .int p3, .long p4] R.1 (fun E => Mo g qa E 64 ltr_M pos_M num_M isk_M bm_M bch_M lan_M siz_M R.2 tap_M now_M tri_M rd_M kp_M bes_M ∧ ∀ j, (j < 64 ∨ 74 ≤ j) → E j = E0 j) := by
  refine MI.mk (by decide) rfl (Nat.le_of_ble_eq_true rfl) ?_
  intro p e s m args below meth c ls Q X hret hP hS hl
  have hl : lv_has ls 7 [(0, .ref (qa 64)), (1, .int p1), (2, .int p2), (3, .int p3), (4, .long p4)] := hl
  have hfr : ∀ j, (j < 64 ∨ 74 ≤ j) → E0 j = E0 j := fun _ _ => rfl
  rw [fX6_item] at hf
  refine lv_iload_n X.1 X.2.1 dX6_item_0 rfl (lv_at hl 1 rfl) ?_
  obtain ⟨r1, hr1, hf⟩ := bd_of hf
  refine x_rdSi X hP hS (index := 178) (n := 1) (As := [.int p1]) (ct_X6_isSheet  hr1) ggX6_item_X6_isSheet (by decide +kernel) (by decide +kernel) (by decide +kernel) rfl (by decide +kernel) ⟨by decide, by decide⟩ rfl hl.1 rfl (Nat.le_of_ble_eq_true rfl) dX6_item_1 (fun H locs hP hS => ?_)
  refine lv_if_eq (tgt := 16) X.1 X.2.1 dX6_item_4 (by decide) (fun c2 => ?_) (fun c2 => ?_)
  · have hf := ifp hf c2
    refine lv_iconst (v := (-1)) X.1 X.2.1 dX6_item_16 (by decide) ?_
    obtain rfl := Option.some.inj hf
    exact hret _ _ _ _ _ _ dX6_item_17 rfl rfl (⟨hG_M, hfr⟩) hP hS
  · have hf := ifn hf c2
    refine lv_iload_n X.1 X.2.1 dX6_item_7 rfl (lv_at hl 2 rfl) ?_
    refine lv_iconst (v := 0) X.1 X.2.1 dX6_item_8 (by decide) ?_
    refine lv_iconst (v := 3) X.1 X.2.1 dX6_item_9 (by decide) ?_
    obtain ⟨r3, hr3, hf⟩ := bd_of hf
    refine x_rdSi X hP hS (index := 38) (n := 3) (As := [.int p2, .int 0, .int 3]) (ct_X6_in  hr3) ggX6_item_X6_in (by decide +kernel) (by decide +kernel) (by decide +kernel) rfl (by decide +kernel) ⟨by decide, by decide⟩ rfl hl.1 rfl (Nat.le_of_ble_eq_true rfl) dX6_item_10 (fun H locs hP hS => ?_)
    refine lv_if_ne (tgt := 18) X.1 X.2.1 dX6_item_13 (by decide) (fun c4 => ?_) (fun c4 => ?_)
    · have hf := ifn hf c4
      refine lv_aload_n X.1 X.2.1 dX6_item_18 rfl (lv_at hl 0 rfl) ?_
      refine lv_iload_n X.1 X.2.1 dX6_item_19 rfl (lv_at hl 1 rfl) ?_
      refine lv_iload_n X.1 X.2.1 dX6_item_20 rfl (lv_at hl 2 rfl) ?_
      refine lv_iload_n X.1 X.2.1 dX6_item_21 rfl (lv_at hl 3 rfl) ?_
      refine lv_iconst (v := 1) X.1 X.2.1 dX6_item_22 (by decide) ?_
      obtain ⟨r5, hr5, hf⟩ := bd_of hf
      refine x_rdVi X hP hS hG_M.1 (by omega) rfl (n := 4) (As := [.int p1, .int p2, .int p3, .int 1]) (ct_X6_wrong hG_M hr5) gX6_item_X6_wrong rfl (by decide +kernel) ⟨by decide, by decide⟩ rfl hl.1 rfl (Nat.le_of_ble_eq_true rfl) dX6_item_23 (fun H locs hP hS => ?_)
      refine lv_istore (lv' := [(6, .int r5), (0, .ref (qa 64)), (1, .int p1), (2, .int p2), (3, .int p3), (4, .long p4)]) X.1 X.2.1 dX6_item_26 hl (by decide) rfl (fun ls hl => ?_)
      refine lv_iload X.1 X.2.1 dX6_item_28 (lv_at hl 0 rfl) ?_
      refine lv_if_eq (tgt := 36) X.1 X.2.1 dX6_item_30 (by decide) (fun c6 => ?_) (fun c6 => ?_)
      · have hf := ifp hf c6
        refine lv_aload_n X.1 X.2.1 dX6_item_36 rfl (lv_at hl 1 rfl) ?_
        refine x_get X hP hG_M.1 (by omega) rfl in_X6_item_X6 2 (by decide) (by decide +kernel) rfl rfl dX6_item_37 ?_
        refine lv_bipush (v := 24) X.1 X.2.1 dX6_item_40 (by decide) ?_
        refine lv_iload_n X.1 X.2.1 dX6_item_42 rfl (lv_at hl 2 rfl) ?_
        refine lv_imul X.1 X.2.1 dX6_item_43 ?_
        refine lv_iload_n X.1 X.2.1 dX6_item_44 rfl (lv_at hl 4 rfl) ?_
        refine lv_iadd X.1 X.2.1 dX6_item_45 ?_
        refine lv_iload_n X.1 X.2.1 dX6_item_46 rfl (lv_at hl 3 rfl) ?_
        refine lv_if_ne (tgt := 58) X.1 X.2.1 dX6_item_47 (by decide) (fun c7 => ?_) (fun c7 => ?_)
        · have hf := ifn hf c7
          refine lv_iload_n X.1 X.2.1 dX6_item_58 rfl (lv_at hl 3 rfl) ?_
          refine lv_iconst (v := 1) X.1 X.2.1 dX6_item_59 (by decide) ?_
          refine lv_icmp_ne (tgt := 71) X.1 X.2.1 dX6_item_60 (by decide) (fun c8 => ?_) (fun c8 => ?_)
          · have hf := ifn hf c8
            refine lv_iload_n X.1 X.2.1 dX6_item_71 rfl (lv_at hl 3 rfl) ?_
            refine lv_iconst (v := 2) X.1 X.2.1 dX6_item_72 (by decide) ?_
            refine lv_icmp_ne (tgt := 83) X.1 X.2.1 dX6_item_73 (by decide) (fun c9 => ?_) (fun c9 => ?_)
            · have hf := ifn hf c9
              refine lv_lload X.1 X.2.1 dX6_item_83 (lv_at hl 5 rfl) ?_
              obtain ⟨hi10, hf⟩ := gin_of hf
              refine x_last X hP hS hG_M.2.2.2.1 (by omega) hi10 dX6_item_85 (fun E H locs h1 hk hP hS => ?_)
              have hG_M := Mo_set_3 hG_M h1 hk
              have hfr : ∀ j, (j < 64 ∨ 74 ≤ j) → E j = E0 j := fun j o0 => (hk j (by omega)).trans (hfr j o0)
              refine lv_iconst (v := 1) X.1 X.2.1 dX6_item_86 (by decide) ?_
              obtain rfl := Option.some.inj hf
              exact hret _ _ _ _ _ _ dX6_item_87 rfl rfl (⟨hG_M, hfr⟩) hP hS
            · have hf := ifp hf c9
              refine lv_lload X.1 X.2.1 dX6_item_76 (lv_at hl 5 rfl) ?_
              refine lv_l2i X.1 X.2.1 dX6_item_78 rfl ?_
              refine lv_i2l X.1 X.2.1 dX6_item_79 rfl ?_
              refine lv_goto (tgt := 85) X.1 X.2.1 dX6_item_80 (by decide) ?_
              obtain ⟨hi11, hf⟩ := gin_of hf
              refine x_last X hP hS hG_M.2.2.2.1 (by omega) hi11 dX6_item_85 (fun E H locs h1 hk hP hS => ?_)
              have hG_M := Mo_set_3 hG_M h1 hk
              have hfr : ∀ j, (j < 64 ∨ 74 ≤ j) → E j = E0 j := fun j o0 => (hk j (by omega)).trans (hfr j o0)
              refine lv_iconst (v := 1) X.1 X.2.1 dX6_item_86 (by decide) ?_
              obtain rfl := Option.some.inj hf
              exact hret _ _ _ _ _ _ dX6_item_87 rfl rfl (⟨hG_M, hfr⟩) hP hS
          · have hf := ifp hf c8
            refine lv_lload X.1 X.2.1 dX6_item_63 (lv_at hl 5 rfl) ?_
            refine lv_l2i X.1 X.2.1 dX6_item_65 rfl ?_
            refine lv_i2s X.1 X.2.1 dX6_item_66 rfl ?_
            refine lv_i2l X.1 X.2.1 dX6_item_67 rfl ?_
            refine lv_goto (tgt := 85) X.1 X.2.1 dX6_item_68 (by decide) ?_
            obtain ⟨hi12, hf⟩ := gin_of hf
            refine x_last X hP hS hG_M.2.2.2.1 (by omega) hi12 dX6_item_85 (fun E H locs h1 hk hP hS => ?_)
            have hG_M := Mo_set_3 hG_M h1 hk
            have hfr : ∀ j, (j < 64 ∨ 74 ≤ j) → E j = E0 j := fun j o0 => (hk j (by omega)).trans (hfr j o0)
            refine lv_iconst (v := 1) X.1 X.2.1 dX6_item_86 (by decide) ?_
            obtain rfl := Option.some.inj hf
            exact hret _ _ _ _ _ _ dX6_item_87 rfl rfl (⟨hG_M, hfr⟩) hP hS
        · have hf := ifp hf c7
          refine lv_lload X.1 X.2.1 dX6_item_50 (lv_at hl 5 rfl) ?_
          refine lv_l2i X.1 X.2.1 dX6_item_52 rfl ?_
          refine lv_i2b X.1 X.2.1 dX6_item_53 rfl ?_
          refine lv_i2l X.1 X.2.1 dX6_item_54 rfl ?_
          refine lv_goto (tgt := 85) X.1 X.2.1 dX6_item_55 (by decide) ?_
          obtain ⟨hi13, hf⟩ := gin_of hf
          refine x_last X hP hS hG_M.2.2.2.1 (by omega) hi13 dX6_item_85 (fun E H locs h1 hk hP hS => ?_)
          have hG_M := Mo_set_3 hG_M h1 hk
          have hfr : ∀ j, (j < 64 ∨ 74 ≤ j) → E j = E0 j := fun j o0 => (hk j (by omega)).trans (hfr j o0)
          refine lv_iconst (v := 1) X.1 X.2.1 dX6_item_86 (by decide) ?_
          obtain rfl := Option.some.inj hf
          exact hret _ _ _ _ _ _ dX6_item_87 rfl rfl (⟨hG_M, hfr⟩) hP hS
      · have hf := ifn hf c6
        refine lv_iload X.1 X.2.1 dX6_item_33 (lv_at hl 0 rfl) ?_
        obtain rfl := Option.some.inj hf
        exact hret _ _ _ _ _ _ dX6_item_35 rfl rfl (⟨hG_M, hfr⟩) hP hS
    · have hf := ifp hf c4
      refine lv_iconst (v := (-1)) X.1 X.2.1 dX6_item_16 (by decide) ?_
      obtain rfl := Option.some.inj hf
      exact hret _ _ _ _ _ _ dX6_item_17 rfl rfl (⟨hG_M, hfr⟩) hP hS
def fX6_man (p1 : Int32)  (now_M : Nat → Int32) : Option (Int32 × (Nat → Int32)) := (fX6_in p1 1 60).bind (fun r1 => if r1 = 0 then (some ((-1), now_M)) else (gin 19 191 (if (now_M (Int32.toNatClampNeg 19)) = 5 then (some ((-3), now_M)) else (gin 38 191 ((fX6_addMan p1 (upd now_M (Int32.toNatClampNeg 38) 0)).bind (fun r6 => some (r6.1, r6.2)))))))
theorem in_X6_man_X6 : ∀ w ∈ wsX60, w ∈ wsX6_man := by decide +kernel
set_option maxHeartbeats 4000000 in
set_option maxRecDepth 100000 in
theorem ct_X6_man {l : Launch} {D : va_G} {g : Nat → ClassId} {qa : Nat → Nat} {E0 : Nat → va_E} {p1 : Int32} {ltr_M : Int32} {pos_M : Int32} {num_M : Int32} {isk_M : Int32} {bm_M : Int32} {bch_M : Int32} {lan_M : Nat → Int32} {siz_M : Nat → Int32} {itm_M : Nat → Int64} {tap_M : Nat → Int32} {now_M : Nat → Int32} {tri_M : Nat → Int32} {rd_M : Nat → Int32} {kp_M : Nat → Int32} {bes_M : Nat → Int32} (hG_M : Mo g qa E0 64 ltr_M pos_M num_M isk_M bm_M bch_M lan_M siz_M itm_M tap_M now_M tri_M rd_M kp_M bes_M) {R : (Int32 × (Nat → Int32))} (hf : fX6_man p1 now_M = some R) : MI l yX6_man wsX6_man 1 D g qa E0 [.ref (qa 64), .int p1] R.1 (fun E => Mo g qa E 64 ltr_M pos_M num_M isk_M bm_M bch_M lan_M siz_M itm_M tap_M R.2 tri_M rd_M kp_M bes_M ∧ ∀ j, (j < 64 ∨ 74 ≤ j) → E j = E0 j) := by
  refine MI.mk (by decide) rfl (Nat.le_of_ble_eq_true rfl) ?_
  intro p e s m args below meth c ls Q X hret hP hS hl
  have hl : lv_has ls 2 [(0, .ref (qa 64)), (1, .int p1)] := hl
  have hfr : ∀ j, (j < 64 ∨ 74 ≤ j) → E0 j = E0 j := fun _ _ => rfl
  rw [fX6_man] at hf
  refine lv_iload_n X.1 X.2.1 dX6_man_0 rfl (lv_at hl 1 rfl) ?_
  refine lv_iconst (v := 1) X.1 X.2.1 dX6_man_1 (by decide) ?_
  refine lv_bipush (v := 60) X.1 X.2.1 dX6_man_2 (by decide) ?_
  obtain ⟨r1, hr1, hf⟩ := bd_of hf
  refine x_rdSi X hP hS (index := 38) (n := 3) (As := [.int p1, .int 1, .int 60]) (ct_X6_in  hr1) ggX6_man_X6_in (by decide +kernel) (by decide +kernel) (by decide +kernel) rfl (by decide +kernel) ⟨by decide, by decide⟩ rfl hl.1 rfl (Nat.le_of_ble_eq_true rfl) dX6_man_4 (fun H locs hP hS => ?_)
  refine lv_if_ne (tgt := 12) X.1 X.2.1 dX6_man_7 (by decide) (fun c2 => ?_) (fun c2 => ?_)
  · have hf := ifn hf c2
    refine lv_aload_n X.1 X.2.1 dX6_man_12 rfl (lv_at hl 0 rfl) ?_
    refine x_get X hP hG_M.1 (by omega) rfl in_X6_man_X6 7 (by decide) (by decide +kernel) rfl rfl dX6_man_13 ?_
    refine lv_bipush (v := 19) X.1 X.2.1 dX6_man_16 (by decide) ?_
    obtain ⟨hi3, hf⟩ := gin_of hf
    refine x_iald X hP hG_M.2.2.2.2.2.1 (by omega) hi3 dX6_man_18 ?_
    refine lv_iconst (v := 5) X.1 X.2.1 dX6_man_19 (by decide) ?_
    refine lv_icmp_ne (tgt := 26) X.1 X.2.1 dX6_man_20 (by decide) (fun c4 => ?_) (fun c4 => ?_)
    · have hf := ifn hf c4
      refine lv_aload_n X.1 X.2.1 dX6_man_26 rfl (lv_at hl 0 rfl) ?_
      refine x_get X hP hG_M.1 (by omega) rfl in_X6_man_X6 7 (by decide) (by decide +kernel) rfl rfl dX6_man_27 ?_
      refine lv_bipush (v := 38) X.1 X.2.1 dX6_man_30 (by decide) ?_
      refine lv_iconst (v := 0) X.1 X.2.1 dX6_man_32 (by decide) ?_
      obtain ⟨hi5, hf⟩ := gin_of hf
      refine x_iast X hP hS hG_M.2.2.2.2.2.1 (by omega) hi5 dX6_man_33 (fun E H locs h1 hk hP hS => ?_)
      have hG_M := Mo_set_5 hG_M h1 hk
      have hfr : ∀ j, (j < 64 ∨ 74 ≤ j) → E j = E0 j := fun j o0 => (hk j (by omega)).trans (hfr j o0)
      refine lv_aload_n X.1 X.2.1 dX6_man_34 rfl (lv_at hl 0 rfl) ?_
      refine x_get X hP hG_M.1 (by omega) rfl in_X6_man_X6 7 (by decide) (by decide +kernel) rfl rfl dX6_man_35 ?_
      refine lv_iload_n X.1 X.2.1 dX6_man_38 rfl (lv_at hl 1 rfl) ?_
      obtain ⟨r6, hr6, hf⟩ := bd_of hf
      refine x_callSi X hP hS (index := 42) (n := 2) (As := [.ref (qa (64 + 5)), .int p1]) (ct_X6_addMan (by omega) hG_M.2.2.2.2.2.1 hr6) ggX6_man_X6_addMan (by decide +kernel) (by decide +kernel) (by decide +kernel) rfl (by decide +kernel) ⟨by decide, by decide⟩ rfl hl.1 rfl (Nat.le_of_ble_eq_true rfl) dX6_man_39 (fun E H locs hp hP hS => ?_)
      obtain ⟨hW_s, hk⟩ := hp
      have hG_M := Mo_set_5 hG_M hW_s hk
      have hfr : ∀ j, (j < 64 ∨ 74 ≤ j) → E j = E0 j := fun j o0 => (hk j (by omega)).trans (hfr j o0)
      obtain rfl := Option.some.inj hf
      exact hret _ _ _ _ _ _ dX6_man_42 rfl rfl (⟨hG_M, hfr⟩) hP hS
    · have hf := ifp hf c4
      refine lv_bipush (v := (-3)) X.1 X.2.1 dX6_man_23 (by decide) ?_
      obtain rfl := Option.some.inj hf
      exact hret _ _ _ _ _ _ dX6_man_25 rfl rfl (⟨hG_M, hfr⟩) hP hS
  · have hf := ifp hf c2
    refine lv_iconst (v := (-1)) X.1 X.2.1 dX6_man_10 (by decide) ?_
    obtain rfl := Option.some.inj hf
    exact hret _ _ _ _ _ _ dX6_man_11 rfl rfl (⟨hG_M, hfr⟩) hP hS
def fX6_medal (p1 : Int32) (p2 : Int32) (p3 : Int32)  (now_M : Nat → Int32) : Option (Int32 × (Nat → Int32)) := (fX6_in p1 0 4).bind (fun r1 => if r1 = 0 then (some ((-1), now_M)) else ((fX6_in p2 1 20).bind (fun r3 => if r3 = 0 then (some ((-1), now_M)) else ((fX6_isMan p3 now_M).bind (fun r5 => if r5 = 0 then (some ((-1), now_M)) else (gin 25 191 (if (now_M (Int32.toNatClampNeg 25)) = 6 then (some ((-3), now_M)) else (gin 38 191 ((fX6_addMedal p1 p2 p3 (upd now_M (Int32.toNatClampNeg 38) 0)).bind (fun r10 => some (r10.1, r10.2)))))))))))
theorem in_X6_medal_X6 : ∀ w ∈ wsX60, w ∈ wsX6_medal := by decide +kernel
set_option maxHeartbeats 4000000 in
set_option maxRecDepth 100000 in
theorem ct_X6_medal {l : Launch} {D : va_G} {g : Nat → ClassId} {qa : Nat → Nat} {E0 : Nat → va_E} {p1 : Int32} {p2 : Int32} {p3 : Int32} {ltr_M : Int32} {pos_M : Int32} {num_M : Int32} {isk_M : Int32} {bm_M : Int32} {bch_M : Int32} {lan_M : Nat → Int32} {siz_M : Nat → Int32} {itm_M : Nat → Int64} {tap_M : Nat → Int32} {now_M : Nat → Int32} {tri_M : Nat → Int32} {rd_M : Nat → Int32} {kp_M : Nat → Int32} {bes_M : Nat → Int32} (hG_M : Mo g qa E0 64 ltr_M pos_M num_M isk_M bm_M bch_M lan_M siz_M itm_M tap_M now_M tri_M rd_M kp_M bes_M) {R : (Int32 × (Nat → Int32))} (hf : fX6_medal p1 p2 p3 now_M = some R) : MI l yX6_medal wsX6_medal 2 D g qa E0 [.ref (qa 64), .int p1, .int p2, .int p3] R.1 (fun E => Mo g qa E 64 ltr_M pos_M num_M isk_M bm_M bch_M lan_M siz_M itm_M tap_M R.2 tri_M rd_M kp_M bes_M ∧ ∀ j, (j < 64 ∨ 74 ≤ j) → E j = E0 j) := by
  refine MI.mk (by decide) rfl (Nat.le_of_ble_eq_true rfl) ?_
  intro p e s m args below meth c ls Q X hret hP hS hl
  have hl : lv_has ls 4 [(0, .ref (qa 64)), (1, .int p1), (2, .int p2), (3, .int p3)] := hl
  have hfr : ∀ j, (j < 64 ∨ 74 ≤ j) → E0 j = E0 j := fun _ _ => rfl
  rw [fX6_medal] at hf
  refine lv_iload_n X.1 X.2.1 dX6_medal_0 rfl (lv_at hl 1 rfl) ?_
  refine lv_iconst (v := 0) X.1 X.2.1 dX6_medal_1 (by decide) ?_
  refine lv_iconst (v := 4) X.1 X.2.1 dX6_medal_2 (by decide) ?_
  obtain ⟨r1, hr1, hf⟩ := bd_of hf
  refine x_rdSi X hP hS (index := 38) (n := 3) (As := [.int p1, .int 0, .int 4]) (ct_X6_in  hr1) ggX6_medal_X6_in (by decide +kernel) (by decide +kernel) (by decide +kernel) rfl (by decide +kernel) ⟨by decide, by decide⟩ rfl hl.1 rfl (Nat.le_of_ble_eq_true rfl) dX6_medal_3 (fun H locs hP hS => ?_)
  refine lv_if_eq (tgt := 27) X.1 X.2.1 dX6_medal_6 (by decide) (fun c2 => ?_) (fun c2 => ?_)
  · have hf := ifp hf c2
    refine lv_iconst (v := (-1)) X.1 X.2.1 dX6_medal_27 (by decide) ?_
    obtain rfl := Option.some.inj hf
    exact hret _ _ _ _ _ _ dX6_medal_28 rfl rfl (⟨hG_M, hfr⟩) hP hS
  · have hf := ifn hf c2
    refine lv_iload_n X.1 X.2.1 dX6_medal_9 rfl (lv_at hl 2 rfl) ?_
    refine lv_iconst (v := 1) X.1 X.2.1 dX6_medal_10 (by decide) ?_
    refine lv_bipush (v := 20) X.1 X.2.1 dX6_medal_11 (by decide) ?_
    obtain ⟨r3, hr3, hf⟩ := bd_of hf
    refine x_rdSi X hP hS (index := 38) (n := 3) (As := [.int p2, .int 1, .int 20]) (ct_X6_in  hr3) ggX6_medal_X6_in (by decide +kernel) (by decide +kernel) (by decide +kernel) rfl (by decide +kernel) ⟨by decide, by decide⟩ rfl hl.1 rfl (Nat.le_of_ble_eq_true rfl) dX6_medal_13 (fun H locs hP hS => ?_)
    refine lv_if_eq (tgt := 27) X.1 X.2.1 dX6_medal_16 (by decide) (fun c4 => ?_) (fun c4 => ?_)
    · have hf := ifp hf c4
      refine lv_iconst (v := (-1)) X.1 X.2.1 dX6_medal_27 (by decide) ?_
      obtain rfl := Option.some.inj hf
      exact hret _ _ _ _ _ _ dX6_medal_28 rfl rfl (⟨hG_M, hfr⟩) hP hS
    · have hf := ifn hf c4
      refine lv_aload_n X.1 X.2.1 dX6_medal_19 rfl (lv_at hl 0 rfl) ?_
      refine lv_iload_n X.1 X.2.1 dX6_medal_20 rfl (lv_at hl 3 rfl) ?_
      obtain ⟨r5, hr5, hf⟩ := bd_of hf
      refine x_rdVi X hP hS hG_M.1 (by omega) rfl (n := 1) (As := [.int p3]) (ct_X6_isMan hG_M hr5) gX6_medal_X6_isMan rfl (by decide +kernel) ⟨by decide, by decide⟩ rfl hl.1 rfl (Nat.le_of_ble_eq_true rfl) dX6_medal_21 (fun H locs hP hS => ?_)
      refine lv_if_ne (tgt := 29) X.1 X.2.1 dX6_medal_24 (by decide) (fun c6 => ?_) (fun c6 => ?_)
      · have hf := ifn hf c6
        refine lv_aload_n X.1 X.2.1 dX6_medal_29 rfl (lv_at hl 0 rfl) ?_
        refine x_get X hP hG_M.1 (by omega) rfl in_X6_medal_X6 7 (by decide) (by decide +kernel) rfl rfl dX6_medal_30 ?_
        refine lv_bipush (v := 25) X.1 X.2.1 dX6_medal_33 (by decide) ?_
        obtain ⟨hi7, hf⟩ := gin_of hf
        refine x_iald X hP hG_M.2.2.2.2.2.1 (by omega) hi7 dX6_medal_35 ?_
        refine lv_bipush (v := 6) X.1 X.2.1 dX6_medal_36 (by decide) ?_
        refine lv_icmp_ne (tgt := 44) X.1 X.2.1 dX6_medal_38 (by decide) (fun c8 => ?_) (fun c8 => ?_)
        · have hf := ifn hf c8
          refine lv_aload_n X.1 X.2.1 dX6_medal_44 rfl (lv_at hl 0 rfl) ?_
          refine x_get X hP hG_M.1 (by omega) rfl in_X6_medal_X6 7 (by decide) (by decide +kernel) rfl rfl dX6_medal_45 ?_
          refine lv_bipush (v := 38) X.1 X.2.1 dX6_medal_48 (by decide) ?_
          refine lv_iconst (v := 0) X.1 X.2.1 dX6_medal_50 (by decide) ?_
          obtain ⟨hi9, hf⟩ := gin_of hf
          refine x_iast X hP hS hG_M.2.2.2.2.2.1 (by omega) hi9 dX6_medal_51 (fun E H locs h1 hk hP hS => ?_)
          have hG_M := Mo_set_5 hG_M h1 hk
          have hfr : ∀ j, (j < 64 ∨ 74 ≤ j) → E j = E0 j := fun j o0 => (hk j (by omega)).trans (hfr j o0)
          refine lv_aload_n X.1 X.2.1 dX6_medal_52 rfl (lv_at hl 0 rfl) ?_
          refine x_get X hP hG_M.1 (by omega) rfl in_X6_medal_X6 7 (by decide) (by decide +kernel) rfl rfl dX6_medal_53 ?_
          refine lv_iload_n X.1 X.2.1 dX6_medal_56 rfl (lv_at hl 1 rfl) ?_
          refine lv_iload_n X.1 X.2.1 dX6_medal_57 rfl (lv_at hl 2 rfl) ?_
          refine lv_iload_n X.1 X.2.1 dX6_medal_58 rfl (lv_at hl 3 rfl) ?_
          obtain ⟨r10, hr10, hf⟩ := bd_of hf
          refine x_callSi X hP hS (index := 50) (n := 4) (As := [.ref (qa (64 + 5)), .int p1, .int p2, .int p3]) (ct_X6_addMedal (by omega) hG_M.2.2.2.2.2.1 hr10) ggX6_medal_X6_addMedal (by decide +kernel) (by decide +kernel) (by decide +kernel) rfl (by decide +kernel) ⟨by decide, by decide⟩ rfl hl.1 rfl (Nat.le_of_ble_eq_true rfl) dX6_medal_59 (fun E H locs hp hP hS => ?_)
          obtain ⟨hW_s, hk⟩ := hp
          have hG_M := Mo_set_5 hG_M hW_s hk
          have hfr : ∀ j, (j < 64 ∨ 74 ≤ j) → E j = E0 j := fun j o0 => (hk j (by omega)).trans (hfr j o0)
          obtain rfl := Option.some.inj hf
          exact hret _ _ _ _ _ _ dX6_medal_62 rfl rfl (⟨hG_M, hfr⟩) hP hS
        · have hf := ifp hf c8
          refine lv_bipush (v := (-3)) X.1 X.2.1 dX6_medal_41 (by decide) ?_
          obtain rfl := Option.some.inj hf
          exact hret _ _ _ _ _ _ dX6_medal_43 rfl rfl (⟨hG_M, hfr⟩) hP hS
      · have hf := ifp hf c6
        refine lv_iconst (v := (-1)) X.1 X.2.1 dX6_medal_27 (by decide) ?_
        obtain rfl := Option.some.inj hf
        exact hret _ _ _ _ _ _ dX6_medal_28 rfl rfl (⟨hG_M, hfr⟩) hP hS
def bX6_needs_22 (now_M : Nat → Int32) (p1 : Int32) (p2 : Int32) (K5 : ((Int32 × (Nat → Int32))) → Option (Int32 × (Nat → Int32))) : ((Int32 × (Nat → Int32))) → Option (Int32 × (Nat → Int32))
  | (v3_5, tri_M_5) => if 200 < v3_5 then (some ((-4), tri_M_5)) else ((fX6_begin now_M tri_M_5).bind (fun r7 => gin (2 + p1) 191 (gin (20 + p1) 191 (if v3_5 ≤ ((upd r7 (Int32.toNatClampNeg (2 + p1)) v3_5) (Int32.toNatClampNeg (20 + p1))) then (gin (20 + p1) 191 (gin (20 + p1) 191 ((fX6_isUpright p1 p2 (upd (upd r7 (Int32.toNatClampNeg (2 + p1)) v3_5) (Int32.toNatClampNeg (20 + p1)) ((upd r7 (Int32.toNatClampNeg (2 + p1)) v3_5) (Int32.toNatClampNeg (20 + p1))))).bind (fun r13 => if r13.1 = 0 then (nm (v3_5 + 1) (fun x15 => K5 (x15, r13.2))) else (some (v3_5, r13.2)))))) else (gin (20 + p1) 191 ((fX6_isUpright p1 p2 (upd (upd r7 (Int32.toNatClampNeg (2 + p1)) v3_5) (Int32.toNatClampNeg (20 + p1)) v3_5)).bind (fun r17 => if r17.1 = 0 then (nm (v3_5 + 1) (fun x19 => K5 (x19, r17.2))) else (some (v3_5, r17.2)))))))))
def fX6_needs (p1 : Int32) (p2 : Int32)  (now_M : Nat → Int32) (tri_M : Nat → Int32) : Option (Int32 × (Nat → Int32)) := (fX6_isMan p1 now_M).bind (fun r1 => if r1 = 0 then (some ((-1), tri_M)) else ((fX6_in p2 1 40).bind (fun r3 => if r3 = 0 then (some ((-1), tri_M)) else (lp (bX6_needs_22 now_M p1 p2) FU (0, tri_M)))))
theorem in_X6_needs_X6 : ∀ w ∈ wsX60, w ∈ wsX6_needs := by decide +kernel
set_option maxHeartbeats 4000000 in
set_option maxRecDepth 100000 in
theorem ct_X6_needs {l : Launch} {D : va_G} {g : Nat → ClassId} {qa : Nat → Nat} {E0 : Nat → va_E} {p1 : Int32} {p2 : Int32} {ltr_M : Int32} {pos_M : Int32} {num_M : Int32} {isk_M : Int32} {bm_M : Int32} {bch_M : Int32} {lan_M : Nat → Int32} {siz_M : Nat → Int32} {itm_M : Nat → Int64} {tap_M : Nat → Int32} {now_M : Nat → Int32} {tri_M : Nat → Int32} {rd_M : Nat → Int32} {kp_M : Nat → Int32} {bes_M : Nat → Int32} (hG_M : Mo g qa E0 64 ltr_M pos_M num_M isk_M bm_M bch_M lan_M siz_M itm_M tap_M now_M tri_M rd_M kp_M bes_M) {R : (Int32 × (Nat → Int32))} (hf : fX6_needs p1 p2 now_M tri_M = some R) : MI l yX6_needs wsX6_needs 7 D g qa E0 [.ref (qa 64), .int p1, .int p2] R.1 (fun E => Mo g qa E 64 ltr_M pos_M num_M isk_M bm_M bch_M lan_M siz_M itm_M tap_M now_M R.2 rd_M kp_M bes_M ∧ ∀ j, (j < 64 ∨ 74 ≤ j) → E j = E0 j) := by
  refine MI.mk (by decide) rfl (Nat.le_of_ble_eq_true rfl) ?_
  intro p e s m args below meth c ls Q X hret hP hS hl
  have hl : lv_has ls 4 [(0, .ref (qa 64)), (1, .int p1), (2, .int p2)] := hl
  have hfr : ∀ j, (j < 64 ∨ 74 ≤ j) → E0 j = E0 j := fun _ _ => rfl
  rw [fX6_needs] at hf
  refine lv_aload_n X.1 X.2.1 dX6_needs_0 rfl (lv_at hl 0 rfl) ?_
  refine lv_iload_n X.1 X.2.1 dX6_needs_1 rfl (lv_at hl 1 rfl) ?_
  obtain ⟨r1, hr1, hf⟩ := bd_of hf
  refine x_rdVi X hP hS hG_M.1 (by omega) rfl (n := 1) (As := [.int p1]) (ct_X6_isMan hG_M hr1) gX6_needs_X6_isMan rfl (by decide +kernel) ⟨by decide, by decide⟩ rfl hl.1 rfl (Nat.le_of_ble_eq_true rfl) dX6_needs_2 (fun H locs hP hS => ?_)
  refine lv_if_eq (tgt := 18) X.1 X.2.1 dX6_needs_5 (by decide) (fun c2 => ?_) (fun c2 => ?_)
  · have hf := ifp hf c2
    refine lv_iconst (v := (-1)) X.1 X.2.1 dX6_needs_18 (by decide) ?_
    obtain rfl := Option.some.inj hf
    exact hret _ _ _ _ _ _ dX6_needs_19 rfl rfl (⟨hG_M, hfr⟩) hP hS
  · have hf := ifn hf c2
    refine lv_iload_n X.1 X.2.1 dX6_needs_8 rfl (lv_at hl 2 rfl) ?_
    refine lv_iconst (v := 1) X.1 X.2.1 dX6_needs_9 (by decide) ?_
    refine lv_bipush (v := 40) X.1 X.2.1 dX6_needs_10 (by decide) ?_
    obtain ⟨r3, hr3, hf⟩ := bd_of hf
    refine x_rdSi X hP hS (index := 38) (n := 3) (As := [.int p2, .int 1, .int 40]) (ct_X6_in  hr3) ggX6_needs_X6_in (by decide +kernel) (by decide +kernel) (by decide +kernel) rfl (by decide +kernel) ⟨by decide, by decide⟩ rfl hl.1 rfl (Nat.le_of_ble_eq_true rfl) dX6_needs_12 (fun H locs hP hS => ?_)
    refine lv_if_ne (tgt := 20) X.1 X.2.1 dX6_needs_15 (by decide) (fun c4 => ?_) (fun c4 => ?_)
    · have hf := ifn hf c4
      refine lv_iconst (v := 0) X.1 X.2.1 dX6_needs_20 (by decide) ?_
      refine lv_istore_n (lv' := [(3, .int 0), (0, .ref (qa 64)), (1, .int p1), (2, .int p2)]) X.1 X.2.1 dX6_needs_21 rfl hl (by decide) rfl (fun ls hl => ?_)
      have lp5 : ∀ (n5 : Nat) (v3_5 : Int32) (tri_M_5 : Nat → Int32) (E : Nat → va_E) (H : Heap) (locs : List Loc) (ls : Array Slot), lp (bX6_needs_22 now_M p1 p2) n5 (v3_5, tri_M_5) = some R → va_P D vwCl (WD qa E) H → va_S (gA qa s.heap.size) s.heap H locs → Mo g qa E 64 ltr_M pos_M num_M isk_M bm_M bch_M lan_M siz_M itm_M tap_M now_M tri_M_5 rd_M kp_M bes_M → (∀ j, (j < 64 ∨ 74 ≤ j) → E j = E0 j) → lv_has ls 4 [(0, .ref (qa 64)), (1, .int p1), (2, .int p2), (3, .int v3_5)] → W p l e (rmf 7) s m args below meth c H locs 0 0 Q (F0 m 22 ls []) := by
        intro n5
        induction n5 with
        | zero =>
          intro v3_5 tri_M_5 E H locs ls hf
          exact absurd hf (by intro h; cases h)
        | succ n5 ih5 =>
          intro v3_5 tri_M_5 E H locs ls hf hP hS hG_M hfr hl
          have hf : bX6_needs_22 now_M p1 p2 (lp (bX6_needs_22 now_M p1 p2) n5) (v3_5, tri_M_5) = some R := hf
          rw [bX6_needs_22] at hf
          refine lv_iload_n X.1 X.2.1 dX6_needs_22 rfl (lv_at hl 3 rfl) ?_
          refine lv_sipush (v := 200) X.1 X.2.1 dX6_needs_23 (by decide) ?_
          refine lv_icmp_gt (tgt := 94) X.1 X.2.1 dX6_needs_26 (by decide) (fun c6 => ?_) (fun c6 => ?_)
          · have hf := ifp hf c6
            refine lv_bipush (v := (-4)) X.1 X.2.1 dX6_needs_94 (by decide) ?_
            obtain rfl := Option.some.inj hf
            exact hret _ _ _ _ _ _ dX6_needs_96 rfl rfl (⟨hG_M, hfr⟩) hP hS
          · have hf := ifn hf c6
            refine lv_aload_n X.1 X.2.1 dX6_needs_29 rfl (lv_at hl 0 rfl) ?_
            obtain ⟨r7, hr7, hf⟩ := bd_of hf
            refine x_callVv X hP hS hG_M.1 (by omega) rfl (n := 0) (As := []) (ct_X6_begin hG_M hr7) gX6_needs_X6_begin rfl (by decide +kernel) ⟨by decide, by decide⟩ rfl hl.1 rfl (Nat.le_of_ble_eq_true rfl) dX6_needs_30 (fun E H locs hp hP hS => ?_)
            obtain ⟨hW_M, hk⟩ := hp
            have hG_M := hW_M
            have hfr : ∀ j, (j < 64 ∨ 74 ≤ j) → E j = E0 j := fun j o0 => (hk j (by omega)).trans (hfr j o0)
            refine lv_aload_n X.1 X.2.1 dX6_needs_33 rfl (lv_at hl 0 rfl) ?_
            refine x_get X hP hG_M.1 (by omega) rfl in_X6_needs_X6 8 (by decide) (by decide +kernel) rfl rfl dX6_needs_34 ?_
            refine lv_iconst (v := 2) X.1 X.2.1 dX6_needs_37 (by decide) ?_
            refine lv_iload_n X.1 X.2.1 dX6_needs_38 rfl (lv_at hl 1 rfl) ?_
            refine lv_iadd X.1 X.2.1 dX6_needs_39 ?_
            refine lv_iload_n X.1 X.2.1 dX6_needs_40 rfl (lv_at hl 3 rfl) ?_
            obtain ⟨hi8, hf⟩ := gin_of hf
            refine x_iast X hP hS hG_M.2.2.2.2.2.2.1 (by omega) hi8 dX6_needs_41 (fun E H locs h1 hk hP hS => ?_)
            have hG_M := Mo_set_6 hG_M h1 hk
            have hfr : ∀ j, (j < 64 ∨ 74 ≤ j) → E j = E0 j := fun j o0 => (hk j (by omega)).trans (hfr j o0)
            refine lv_aload_n X.1 X.2.1 dX6_needs_42 rfl (lv_at hl 0 rfl) ?_
            refine x_get X hP hG_M.1 (by omega) rfl in_X6_needs_X6 8 (by decide) (by decide +kernel) rfl rfl dX6_needs_43 ?_
            refine lv_bipush (v := 20) X.1 X.2.1 dX6_needs_46 (by decide) ?_
            refine lv_iload_n X.1 X.2.1 dX6_needs_48 rfl (lv_at hl 1 rfl) ?_
            refine lv_iadd X.1 X.2.1 dX6_needs_49 ?_
            refine lv_aload_n X.1 X.2.1 dX6_needs_50 rfl (lv_at hl 0 rfl) ?_
            refine x_get X hP hG_M.1 (by omega) rfl in_X6_needs_X6 8 (by decide) (by decide +kernel) rfl rfl dX6_needs_51 ?_
            refine lv_bipush (v := 20) X.1 X.2.1 dX6_needs_54 (by decide) ?_
            refine lv_iload_n X.1 X.2.1 dX6_needs_56 rfl (lv_at hl 1 rfl) ?_
            refine lv_iadd X.1 X.2.1 dX6_needs_57 ?_
            obtain ⟨hi9, hf⟩ := gin_of hf
            refine x_iald X hP hG_M.2.2.2.2.2.2.1 (by omega) hi9 dX6_needs_58 ?_
            refine lv_iload_n X.1 X.2.1 dX6_needs_59 rfl (lv_at hl 3 rfl) ?_
            refine lv_icmp_ge (tgt := 67) X.1 X.2.1 dX6_needs_60 (by decide) (fun c10 => ?_) (fun c10 => ?_)
            · have hf := ifp hf c10
              refine lv_aload_n X.1 X.2.1 dX6_needs_67 rfl (lv_at hl 0 rfl) ?_
              refine x_get X hP hG_M.1 (by omega) rfl in_X6_needs_X6 8 (by decide) (by decide +kernel) rfl rfl dX6_needs_68 ?_
              refine lv_bipush (v := 20) X.1 X.2.1 dX6_needs_71 (by decide) ?_
              refine lv_iload_n X.1 X.2.1 dX6_needs_73 rfl (lv_at hl 1 rfl) ?_
              refine lv_iadd X.1 X.2.1 dX6_needs_74 ?_
              obtain ⟨hi11, hf⟩ := gin_of hf
              refine x_iald X hP hG_M.2.2.2.2.2.2.1 (by omega) hi11 dX6_needs_75 ?_
              obtain ⟨hi12, hf⟩ := gin_of hf
              refine x_iast X hP hS hG_M.2.2.2.2.2.2.1 (by omega) hi12 dX6_needs_76 (fun E H locs h1 hk hP hS => ?_)
              have hG_M := Mo_set_6 hG_M h1 hk
              have hfr : ∀ j, (j < 64 ∨ 74 ≤ j) → E j = E0 j := fun j o0 => (hk j (by omega)).trans (hfr j o0)
              refine lv_aload_n X.1 X.2.1 dX6_needs_77 rfl (lv_at hl 0 rfl) ?_
              refine lv_iload_n X.1 X.2.1 dX6_needs_78 rfl (lv_at hl 1 rfl) ?_
              refine lv_iload_n X.1 X.2.1 dX6_needs_79 rfl (lv_at hl 2 rfl) ?_
              obtain ⟨r13, hr13, hf⟩ := bd_of hf
              refine x_callVi X hP hS hG_M.1 (by omega) rfl (n := 2) (As := [.int p1, .int p2]) (ct_X6_isUpright hG_M hr13) gX6_needs_X6_isUpright rfl (by decide +kernel) ⟨by decide, by decide⟩ rfl hl.1 rfl (Nat.le_of_ble_eq_true rfl) dX6_needs_80 (fun E H locs hp hP hS => ?_)
              obtain ⟨hW_M, hk⟩ := hp
              have hG_M := hW_M
              have hfr : ∀ j, (j < 64 ∨ 74 ≤ j) → E j = E0 j := fun j o0 => (hk j (by omega)).trans (hfr j o0)
              refine lv_if_eq (tgt := 88) X.1 X.2.1 dX6_needs_83 (by decide) (fun c14 => ?_) (fun c14 => ?_)
              · have hf := ifp hf c14
                obtain ⟨x15, ex15, hf⟩ := nm_of hf
                refine lv_iinc (v := x15) (lv' := [(3, .int x15), (0, .ref (qa 64)), (1, .int p1), (2, .int p2)]) X.1 X.2.1 dX6_needs_88 hl (k := 3) rfl (by rw [ex15]; rfl) (by decide) rfl (fun ls hl => ?_)
                refine lv_goto (tgt := 22) X.1 X.2.1 dX6_needs_91 (by decide) ?_
                exact ih5 x15 r13.2 _ _ _ _ hf hP hS hG_M hfr (lv_sub hl [1, 2, 3, 0] rfl)
              · have hf := ifn hf c14
                refine lv_iload_n X.1 X.2.1 dX6_needs_86 rfl (lv_at hl 3 rfl) ?_
                obtain rfl := Option.some.inj hf
                exact hret _ _ _ _ _ _ dX6_needs_87 rfl rfl (⟨hG_M, hfr⟩) hP hS
            · have hf := ifn hf c10
              refine lv_iload_n X.1 X.2.1 dX6_needs_63 rfl (lv_at hl 3 rfl) ?_
              refine lv_goto (tgt := 76) X.1 X.2.1 dX6_needs_64 (by decide) ?_
              obtain ⟨hi16, hf⟩ := gin_of hf
              refine x_iast X hP hS hG_M.2.2.2.2.2.2.1 (by omega) hi16 dX6_needs_76 (fun E H locs h1 hk hP hS => ?_)
              have hG_M := Mo_set_6 hG_M h1 hk
              have hfr : ∀ j, (j < 64 ∨ 74 ≤ j) → E j = E0 j := fun j o0 => (hk j (by omega)).trans (hfr j o0)
              refine lv_aload_n X.1 X.2.1 dX6_needs_77 rfl (lv_at hl 0 rfl) ?_
              refine lv_iload_n X.1 X.2.1 dX6_needs_78 rfl (lv_at hl 1 rfl) ?_
              refine lv_iload_n X.1 X.2.1 dX6_needs_79 rfl (lv_at hl 2 rfl) ?_
              obtain ⟨r17, hr17, hf⟩ := bd_of hf
              refine x_callVi X hP hS hG_M.1 (by omega) rfl (n := 2) (As := [.int p1, .int p2]) (ct_X6_isUpright hG_M hr17) gX6_needs_X6_isUpright rfl (by decide +kernel) ⟨by decide, by decide⟩ rfl hl.1 rfl (Nat.le_of_ble_eq_true rfl) dX6_needs_80 (fun E H locs hp hP hS => ?_)
              obtain ⟨hW_M, hk⟩ := hp
              have hG_M := hW_M
              have hfr : ∀ j, (j < 64 ∨ 74 ≤ j) → E j = E0 j := fun j o0 => (hk j (by omega)).trans (hfr j o0)
              refine lv_if_eq (tgt := 88) X.1 X.2.1 dX6_needs_83 (by decide) (fun c18 => ?_) (fun c18 => ?_)
              · have hf := ifp hf c18
                obtain ⟨x19, ex19, hf⟩ := nm_of hf
                refine lv_iinc (v := x19) (lv' := [(3, .int x19), (0, .ref (qa 64)), (1, .int p1), (2, .int p2)]) X.1 X.2.1 dX6_needs_88 hl (k := 3) rfl (by rw [ex19]; rfl) (by decide) rfl (fun ls hl => ?_)
                refine lv_goto (tgt := 22) X.1 X.2.1 dX6_needs_91 (by decide) ?_
                exact ih5 x19 r17.2 _ _ _ _ hf hP hS hG_M hfr (lv_sub hl [1, 2, 3, 0] rfl)
              · have hf := ifn hf c18
                refine lv_iload_n X.1 X.2.1 dX6_needs_86 rfl (lv_at hl 3 rfl) ?_
                obtain rfl := Option.some.inj hf
                exact hret _ _ _ _ _ _ dX6_needs_87 rfl rfl (⟨hG_M, hfr⟩) hP hS
      exact lp5 FU 0 tri_M _ _ _ _ hf hP hS hG_M hfr (lv_sub hl [1, 2, 3, 0] rfl)
    · have hf := ifp hf c4
      refine lv_iconst (v := (-1)) X.1 X.2.1 dX6_needs_18 (by decide) ?_
      obtain rfl := Option.some.inj hf
      exact hret _ _ _ _ _ _ dX6_needs_19 rfl rfl (⟨hG_M, hfr⟩) hP hS
def bX6_woundsOf_4 (now_M : Nat → Int32) (p1 : Int32) (K1 : ((Int32 × Int32)) → Option Int32) : ((Int32 × Int32)) → Option Int32
  | (v2_1, v3_1) => gin 25 191 (if (now_M (Int32.toNatClampNeg 25)) ≤ v3_1 then (some v2_1) else (gin (32 + v3_1) 191 (if (now_M (Int32.toNatClampNeg (32 + v3_1))) = p1 then (nm (v2_1 ||| (1 <<< (v3_1 &&& 31))) (fun x8 => nm (v3_1 + 1) (fun x9 => K1 (x8, x9)))) else (nm (v2_1 ||| 0) (fun x6 => nm (v3_1 + 1) (fun x7 => K1 (x6, x7)))))))
def fX6_woundsOf (p1 : Int32)  (now_M : Nat → Int32) : Option Int32 := lp (bX6_woundsOf_4 now_M p1) FU (0, 0)
theorem in_X6_woundsOf_X6 : ∀ w ∈ wsX60, w ∈ wsX6_woundsOf := by decide +kernel
set_option maxHeartbeats 4000000 in
set_option maxRecDepth 100000 in
theorem ct_X6_woundsOf {l : Launch} {D : va_G} {g : Nat → ClassId} {qa : Nat → Nat} {E0 : Nat → va_E} {p1 : Int32} {ltr_M : Int32} {pos_M : Int32} {num_M : Int32} {isk_M : Int32} {bm_M : Int32} {bch_M : Int32} {lan_M : Nat → Int32} {siz_M : Nat → Int32} {itm_M : Nat → Int64} {tap_M : Nat → Int32} {now_M : Nat → Int32} {tri_M : Nat → Int32} {rd_M : Nat → Int32} {kp_M : Nat → Int32} {bes_M : Nat → Int32} (hG_M : Mo g qa E0 64 ltr_M pos_M num_M isk_M bm_M bch_M lan_M siz_M itm_M tap_M now_M tri_M rd_M kp_M bes_M) {R : Int32} (hf : fX6_woundsOf p1 now_M = some R) : MI l yX6_woundsOf wsX6_woundsOf 0 D g qa E0 [.ref (qa 64), .int p1] R (fun E => E = E0) := by
  refine MI.mk (by decide) rfl (Nat.le_of_ble_eq_true rfl) ?_
  intro p e s m args below meth c ls Q X hret hP hS hl
  have hl : lv_has ls 4 [(0, .ref (qa 64)), (1, .int p1)] := hl
  rw [fX6_woundsOf] at hf
  refine lv_iconst (v := 0) X.1 X.2.1 dX6_woundsOf_0 (by decide) ?_
  refine lv_istore_n (lv' := [(2, .int 0), (0, .ref (qa 64)), (1, .int p1)]) X.1 X.2.1 dX6_woundsOf_1 rfl hl (by decide) rfl (fun ls hl => ?_)
  refine lv_iconst (v := 0) X.1 X.2.1 dX6_woundsOf_2 (by decide) ?_
  refine lv_istore_n (lv' := [(3, .int 0), (2, .int 0), (0, .ref (qa 64)), (1, .int p1)]) X.1 X.2.1 dX6_woundsOf_3 rfl hl (by decide) rfl (fun ls hl => ?_)
  have lp1 : ∀ (n1 : Nat) (v2_1 : Int32) (v3_1 : Int32) (H : Heap) (locs : List Loc) (ls : Array Slot), lp (bX6_woundsOf_4 now_M p1) n1 (v2_1, v3_1) = some R → va_P D vwCl (WD qa E0) H → va_S (gA qa s.heap.size) s.heap H locs → lv_has ls 4 [(0, .ref (qa 64)), (1, .int p1), (2, .int v2_1), (3, .int v3_1)] → W p l e (rmf 0) s m args below meth c H locs 0 0 Q (F0 m 4 ls []) := by
    intro n1
    induction n1 with
    | zero =>
      intro v2_1 v3_1 H locs ls hf
      exact absurd hf (by intro h; cases h)
    | succ n1 ih1 =>
      intro v2_1 v3_1 H locs ls hf hP hS hl
      have hf : bX6_woundsOf_4 now_M p1 (lp (bX6_woundsOf_4 now_M p1) n1) (v2_1, v3_1) = some R := hf
      rw [bX6_woundsOf_4] at hf
      refine lv_iload_n X.1 X.2.1 dX6_woundsOf_4 rfl (lv_at hl 3 rfl) ?_
      refine lv_aload_n X.1 X.2.1 dX6_woundsOf_5 rfl (lv_at hl 0 rfl) ?_
      refine x_get X hP hG_M.1 (by omega) rfl in_X6_woundsOf_X6 7 (by decide) (by decide +kernel) rfl rfl dX6_woundsOf_6 ?_
      refine lv_bipush (v := 25) X.1 X.2.1 dX6_woundsOf_9 (by decide) ?_
      obtain ⟨hi2, hf⟩ := gin_of hf
      refine x_iald X hP hG_M.2.2.2.2.2.1 (by omega) hi2 dX6_woundsOf_11 ?_
      refine lv_icmp_ge (tgt := 44) X.1 X.2.1 dX6_woundsOf_12 (by decide) (fun c3 => ?_) (fun c3 => ?_)
      · have hf := ifp hf c3
        refine lv_iload_n X.1 X.2.1 dX6_woundsOf_44 rfl (lv_at hl 2 rfl) ?_
        obtain rfl := Option.some.inj hf
        exact hret _ _ _ _ _ _ dX6_woundsOf_45 rfl rfl (rfl) hP hS
      · have hf := ifn hf c3
        refine lv_iload_n X.1 X.2.1 dX6_woundsOf_15 rfl (lv_at hl 2 rfl) ?_
        refine lv_aload_n X.1 X.2.1 dX6_woundsOf_16 rfl (lv_at hl 0 rfl) ?_
        refine x_get X hP hG_M.1 (by omega) rfl in_X6_woundsOf_X6 7 (by decide) (by decide +kernel) rfl rfl dX6_woundsOf_17 ?_
        refine lv_bipush (v := 32) X.1 X.2.1 dX6_woundsOf_20 (by decide) ?_
        refine lv_iload_n X.1 X.2.1 dX6_woundsOf_22 rfl (lv_at hl 3 rfl) ?_
        refine lv_iadd X.1 X.2.1 dX6_woundsOf_23 ?_
        obtain ⟨hi4, hf⟩ := gin_of hf
        refine x_iald X hP hG_M.2.2.2.2.2.1 (by omega) hi4 dX6_woundsOf_24 ?_
        refine lv_iload_n X.1 X.2.1 dX6_woundsOf_25 rfl (lv_at hl 1 rfl) ?_
        refine lv_icmp_ne (tgt := 35) X.1 X.2.1 dX6_woundsOf_26 (by decide) (fun c5 => ?_) (fun c5 => ?_)
        · have hf := ifn hf c5
          refine lv_iconst (v := 0) X.1 X.2.1 dX6_woundsOf_35 (by decide) ?_
          refine lv_ior X.1 X.2.1 dX6_woundsOf_36 ?_
          obtain ⟨x6, ex6, hf⟩ := nm_of hf
          refine lv_top_as ex6 ?_
          refine lv_istore_n (lv' := [(2, .int x6), (0, .ref (qa 64)), (1, .int p1), (3, .int v3_1)]) X.1 X.2.1 dX6_woundsOf_37 rfl hl (by decide) rfl (fun ls hl => ?_)
          obtain ⟨x7, ex7, hf⟩ := nm_of hf
          refine lv_iinc (v := x7) (lv' := [(3, .int x7), (2, .int x6), (0, .ref (qa 64)), (1, .int p1)]) X.1 X.2.1 dX6_woundsOf_38 hl (k := 3) rfl (by rw [ex7]; rfl) (by decide) rfl (fun ls hl => ?_)
          refine lv_goto (tgt := 4) X.1 X.2.1 dX6_woundsOf_41 (by decide) ?_
          exact ih1 x6 x7 _ _ _ hf hP hS (lv_sub hl [2, 3, 1, 0] rfl)
        · have hf := ifp hf c5
          refine lv_iconst (v := 1) X.1 X.2.1 dX6_woundsOf_29 (by decide) ?_
          refine lv_iload_n X.1 X.2.1 dX6_woundsOf_30 rfl (lv_at hl 3 rfl) ?_
          refine lv_ishl X.1 X.2.1 dX6_woundsOf_31 ?_
          refine lv_goto (tgt := 36) X.1 X.2.1 dX6_woundsOf_32 (by decide) ?_
          refine lv_ior X.1 X.2.1 dX6_woundsOf_36 ?_
          obtain ⟨x8, ex8, hf⟩ := nm_of hf
          refine lv_top_as ex8 ?_
          refine lv_istore_n (lv' := [(2, .int x8), (0, .ref (qa 64)), (1, .int p1), (3, .int v3_1)]) X.1 X.2.1 dX6_woundsOf_37 rfl hl (by decide) rfl (fun ls hl => ?_)
          obtain ⟨x9, ex9, hf⟩ := nm_of hf
          refine lv_iinc (v := x9) (lv' := [(3, .int x9), (2, .int x8), (0, .ref (qa 64)), (1, .int p1)]) X.1 X.2.1 dX6_woundsOf_38 hl (k := 3) rfl (by rw [ex9]; rfl) (by decide) rfl (fun ls hl => ?_)
          refine lv_goto (tgt := 4) X.1 X.2.1 dX6_woundsOf_41 (by decide) ?_
          exact ih1 x8 x9 _ _ _ hf hP hS (lv_sub hl [2, 3, 1, 0] rfl)
  exact lp1 FU 0 0 _ _ _ hf hP hS (lv_sub hl [2, 3, 1, 0] rfl)
def fX6_of (p1 : Int32) (p2 : Int32)  (now_M : Nat → Int32) : Option Int32 := (fX6_isMan p1 now_M).bind (fun r1 => if r1 = 0 then (some (-1)) else (if p2 = 0 then (gin (20 + p1) 191 (some (now_M (Int32.toNatClampNeg (20 + p1))))) else (if p2 = 1 then (gin (2 + p1) 191 (some (now_M (Int32.toNatClampNeg (2 + p1))))) else (if p2 = 2 then ((fX6_load p1 now_M).bind (fun r8 => some r8)) else (if p2 = 3 then ((fX6_isBent p1 now_M).bind (fun r10 => if r10 = 0 then (some 0) else (some 1))) else (if p2 = 4 then ((fX6_wornBy p1 now_M).bind (fun r13 => some r13)) else (if p2 = 5 then ((fX6_woundsOf p1 now_M).bind (fun r15 => some r15)) else (some (-1)))))))))
theorem in_X6_of_X6 : ∀ w ∈ wsX60, w ∈ wsX6_of := by decide +kernel
set_option maxHeartbeats 4000000 in
set_option maxRecDepth 100000 in
theorem ct_X6_of {l : Launch} {D : va_G} {g : Nat → ClassId} {qa : Nat → Nat} {E0 : Nat → va_E} {p1 : Int32} {p2 : Int32} {ltr_M : Int32} {pos_M : Int32} {num_M : Int32} {isk_M : Int32} {bm_M : Int32} {bch_M : Int32} {lan_M : Nat → Int32} {siz_M : Nat → Int32} {itm_M : Nat → Int64} {tap_M : Nat → Int32} {now_M : Nat → Int32} {tri_M : Nat → Int32} {rd_M : Nat → Int32} {kp_M : Nat → Int32} {bes_M : Nat → Int32} (hG_M : Mo g qa E0 64 ltr_M pos_M num_M isk_M bm_M bch_M lan_M siz_M itm_M tap_M now_M tri_M rd_M kp_M bes_M) {R : Int32} (hf : fX6_of p1 p2 now_M = some R) : MI l yX6_of wsX6_of 4 D g qa E0 [.ref (qa 64), .int p1, .int p2] R (fun E => E = E0) := by
  refine MI.mk (by decide) rfl (Nat.le_of_ble_eq_true rfl) ?_
  intro p e s m args below meth c ls Q X hret hP hS hl
  have hl : lv_has ls 3 [(0, .ref (qa 64)), (1, .int p1), (2, .int p2)] := hl
  rw [fX6_of] at hf
  refine lv_aload_n X.1 X.2.1 dX6_of_0 rfl (lv_at hl 0 rfl) ?_
  refine lv_iload_n X.1 X.2.1 dX6_of_1 rfl (lv_at hl 1 rfl) ?_
  obtain ⟨r1, hr1, hf⟩ := bd_of hf
  refine x_rdVi X hP hS hG_M.1 (by omega) rfl (n := 1) (As := [.int p1]) (ct_X6_isMan hG_M hr1) gX6_of_X6_isMan rfl (by decide +kernel) ⟨by decide, by decide⟩ rfl hl.1 rfl (Nat.le_of_ble_eq_true rfl) dX6_of_2 (fun H locs hP hS => ?_)
  refine lv_if_ne (tgt := 10) X.1 X.2.1 dX6_of_5 (by decide) (fun c2 => ?_) (fun c2 => ?_)
  · have hf := ifn hf c2
    refine lv_iload_n X.1 X.2.1 dX6_of_10 rfl (lv_at hl 2 rfl) ?_
    by_cases w3 : p2 = 0
    · have hf := ifp hf w3
      refine lv_tableIn (tgt := 48) X.1 X.2.1 dX6_of_11 (by rw [w3]; decide) (by rw [w3]; decide) (off := 37) (by rw [w3]; decide) (by decide) ?_
      refine lv_aload_n X.1 X.2.1 dX6_of_48 rfl (lv_at hl 0 rfl) ?_
      refine x_get X hP hG_M.1 (by omega) rfl in_X6_of_X6 7 (by decide) (by decide +kernel) rfl rfl dX6_of_49 ?_
      refine lv_bipush (v := 20) X.1 X.2.1 dX6_of_52 (by decide) ?_
      refine lv_iload_n X.1 X.2.1 dX6_of_54 rfl (lv_at hl 1 rfl) ?_
      refine lv_iadd X.1 X.2.1 dX6_of_55 ?_
      obtain ⟨hi4, hf⟩ := gin_of hf
      refine x_iald X hP hG_M.2.2.2.2.2.1 (by omega) hi4 dX6_of_56 ?_
      obtain rfl := Option.some.inj hf
      exact hret _ _ _ _ _ _ dX6_of_57 rfl rfl (rfl) hP hS
    have hf := ifn hf w3
    by_cases w5 : p2 = 1
    · have hf := ifp hf w5
      refine lv_tableIn (tgt := 58) X.1 X.2.1 dX6_of_11 (by rw [w5]; decide) (by rw [w5]; decide) (off := 47) (by rw [w5]; decide) (by decide) ?_
      refine lv_aload_n X.1 X.2.1 dX6_of_58 rfl (lv_at hl 0 rfl) ?_
      refine x_get X hP hG_M.1 (by omega) rfl in_X6_of_X6 7 (by decide) (by decide +kernel) rfl rfl dX6_of_59 ?_
      refine lv_iconst (v := 2) X.1 X.2.1 dX6_of_62 (by decide) ?_
      refine lv_iload_n X.1 X.2.1 dX6_of_63 rfl (lv_at hl 1 rfl) ?_
      refine lv_iadd X.1 X.2.1 dX6_of_64 ?_
      obtain ⟨hi6, hf⟩ := gin_of hf
      refine x_iald X hP hG_M.2.2.2.2.2.1 (by omega) hi6 dX6_of_65 ?_
      obtain rfl := Option.some.inj hf
      exact hret _ _ _ _ _ _ dX6_of_66 rfl rfl (rfl) hP hS
    have hf := ifn hf w5
    by_cases w7 : p2 = 2
    · have hf := ifp hf w7
      refine lv_tableIn (tgt := 67) X.1 X.2.1 dX6_of_11 (by rw [w7]; decide) (by rw [w7]; decide) (off := 56) (by rw [w7]; decide) (by decide) ?_
      refine lv_aload_n X.1 X.2.1 dX6_of_67 rfl (lv_at hl 0 rfl) ?_
      refine x_get X hP hG_M.1 (by omega) rfl in_X6_of_X6 7 (by decide) (by decide +kernel) rfl rfl dX6_of_68 ?_
      refine lv_iload_n X.1 X.2.1 dX6_of_71 rfl (lv_at hl 1 rfl) ?_
      obtain ⟨r8, hr8, hf⟩ := bd_of hf
      refine x_rdSi X hP hS (index := 64) (n := 2) (As := [.ref (qa (64 + 5)), .int p1]) (ct_X6_load (by omega) hG_M.2.2.2.2.2.1 hr8) ggX6_of_X6_load (by decide +kernel) (by decide +kernel) (by decide +kernel) rfl (by decide +kernel) ⟨by decide, by decide⟩ rfl hl.1 rfl (Nat.le_of_ble_eq_true rfl) dX6_of_72 (fun H locs hP hS => ?_)
      obtain rfl := Option.some.inj hf
      exact hret _ _ _ _ _ _ dX6_of_75 rfl rfl (rfl) hP hS
    have hf := ifn hf w7
    by_cases w9 : p2 = 3
    · have hf := ifp hf w9
      refine lv_tableIn (tgt := 76) X.1 X.2.1 dX6_of_11 (by rw [w9]; decide) (by rw [w9]; decide) (off := 65) (by rw [w9]; decide) (by decide) ?_
      refine lv_aload_n X.1 X.2.1 dX6_of_76 rfl (lv_at hl 0 rfl) ?_
      refine x_get X hP hG_M.1 (by omega) rfl in_X6_of_X6 7 (by decide) (by decide +kernel) rfl rfl dX6_of_77 ?_
      refine lv_iload_n X.1 X.2.1 dX6_of_80 rfl (lv_at hl 1 rfl) ?_
      obtain ⟨r10, hr10, hf⟩ := bd_of hf
      refine x_rdSi X hP hS (index := 67) (n := 2) (As := [.ref (qa (64 + 5)), .int p1]) (ct_X6_isBent (by omega) hG_M.2.2.2.2.2.1 hr10) ggX6_of_X6_isBent (by decide +kernel) (by decide +kernel) (by decide +kernel) rfl (by decide +kernel) ⟨by decide, by decide⟩ rfl hl.1 rfl (Nat.le_of_ble_eq_true rfl) dX6_of_81 (fun H locs hP hS => ?_)
      refine lv_if_eq (tgt := 91) X.1 X.2.1 dX6_of_84 (by decide) (fun c11 => ?_) (fun c11 => ?_)
      · have hf := ifp hf c11
        refine lv_iconst (v := 0) X.1 X.2.1 dX6_of_91 (by decide) ?_
        obtain rfl := Option.some.inj hf
        exact hret _ _ _ _ _ _ dX6_of_92 rfl rfl (rfl) hP hS
      · have hf := ifn hf c11
        refine lv_iconst (v := 1) X.1 X.2.1 dX6_of_87 (by decide) ?_
        refine lv_goto (tgt := 92) X.1 X.2.1 dX6_of_88 (by decide) ?_
        obtain rfl := Option.some.inj hf
        exact hret _ _ _ _ _ _ dX6_of_92 rfl rfl (rfl) hP hS
    have hf := ifn hf w9
    by_cases w12 : p2 = 4
    · have hf := ifp hf w12
      refine lv_tableIn (tgt := 93) X.1 X.2.1 dX6_of_11 (by rw [w12]; decide) (by rw [w12]; decide) (off := 82) (by rw [w12]; decide) (by decide) ?_
      refine lv_aload_n X.1 X.2.1 dX6_of_93 rfl (lv_at hl 0 rfl) ?_
      refine x_get X hP hG_M.1 (by omega) rfl in_X6_of_X6 7 (by decide) (by decide +kernel) rfl rfl dX6_of_94 ?_
      refine lv_iload_n X.1 X.2.1 dX6_of_97 rfl (lv_at hl 1 rfl) ?_
      obtain ⟨r13, hr13, hf⟩ := bd_of hf
      refine x_rdSi X hP hS (index := 54) (n := 2) (As := [.ref (qa (64 + 5)), .int p1]) (ct_X6_wornBy (by omega) hG_M.2.2.2.2.2.1 hr13) ggX6_of_X6_wornBy (by decide +kernel) (by decide +kernel) (by decide +kernel) rfl (by decide +kernel) ⟨by decide, by decide⟩ rfl hl.1 rfl (Nat.le_of_ble_eq_true rfl) dX6_of_98 (fun H locs hP hS => ?_)
      obtain rfl := Option.some.inj hf
      exact hret _ _ _ _ _ _ dX6_of_101 rfl rfl (rfl) hP hS
    have hf := ifn hf w12
    by_cases w14 : p2 = 5
    · have hf := ifp hf w14
      refine lv_tableIn (tgt := 102) X.1 X.2.1 dX6_of_11 (by rw [w14]; decide) (by rw [w14]; decide) (off := 91) (by rw [w14]; decide) (by decide) ?_
      refine lv_aload_n X.1 X.2.1 dX6_of_102 rfl (lv_at hl 0 rfl) ?_
      refine lv_iload_n X.1 X.2.1 dX6_of_103 rfl (lv_at hl 1 rfl) ?_
      obtain ⟨r15, hr15, hf⟩ := bd_of hf
      refine x_rdVi X hP hS hG_M.1 (by omega) rfl (n := 1) (As := [.int p1]) (ct_X6_woundsOf hG_M hr15) gX6_of_X6_woundsOf rfl (by decide +kernel) ⟨by decide, by decide⟩ rfl hl.1 rfl (Nat.le_of_ble_eq_true rfl) dX6_of_104 (fun H locs hP hS => ?_)
      obtain rfl := Option.some.inj hf
      exact hret _ _ _ _ _ _ dX6_of_107 rfl rfl (rfl) hP hS
    have hf := ifn hf w14
    refine lv_tableOut (tgt := 108) X.1 X.2.1 dX6_of_11 (by have := i_ne 0 (0) (by decide) w3; have := i_ne 1 (1) (by decide) w5; have := i_ne 2 (2) (by decide) w7; have := i_ne 3 (3) (by decide) w9; have := i_ne 4 (4) (by decide) w12; have := i_ne 5 (5) (by decide) w14; omega) (by decide) ?_
    refine lv_iconst (v := (-1)) X.1 X.2.1 dX6_of_108 (by decide) ?_
    obtain rfl := Option.some.inj hf
    exact hret _ _ _ _ _ _ dX6_of_109 rfl rfl (rfl) hP hS
  · have hf := ifp hf c2
    refine lv_iconst (v := (-1)) X.1 X.2.1 dX6_of_8 (by decide) ?_
    obtain rfl := Option.some.inj hf
    exact hret _ _ _ _ _ _ dX6_of_9 rfl rfl (rfl) hP hS
def bX6_off_31 (now_M : Nat → Int32) (p1 : Int32) (p2 : Int32) (K5 : ((Int32 × Int32 × Int32 × (Nat → Int32))) → Option (Int32 × (Nat → Int32))) : ((Int32 × Int32 × Int32 × (Nat → Int32))) → Option (Int32 × (Nat → Int32))
  | (v3_5, v4_5, v5_5, tri_M_5) => gin 25 191 (if (now_M (Int32.toNatClampNeg 25)) ≤ v5_5 then (if p2 = 0 then (some (v3_5, tri_M_5)) else (some (v4_5, tri_M_5))) else (gin (13 + v5_5) 191 (if (now_M (Int32.toNatClampNeg (13 + v5_5))) = (-4) then (nm (v5_5 + 1) (fun x11 => K5 (v3_5, v4_5, x11, tri_M_5))) else ((fX6_begin now_M tri_M_5).bind (fun r12 => gin (13 + v5_5) 191 ((fX6_goOn p1 (upd r12 (Int32.toNatClampNeg (13 + v5_5)) (-4))).bind (fun r14 => (fX6_bentOnes r14).bind (fun r15 => (fX6_bits r15).bind (fun r16 => if v3_5 = (-4) then (nm (v5_5 + 1) (fun x18 => K5 (v5_5, r16, x18, r14))) else (if v4_5 ≤ r16 then (nm (v5_5 + 1) (fun x20 => K5 (v3_5, v4_5, x20, r14))) else (nm (v5_5 + 1) (fun x21 => K5 (v5_5, r16, x21, r14)))))))))))))
def fX6_off (p1 : Int32) (p2 : Int32)  (now_M : Nat → Int32) (tri_M : Nat → Int32) : Option (Int32 × (Nat → Int32)) := (fX6_in p1 1 40).bind (fun r1 => if r1 = 0 then (some ((-1), tri_M)) else ((fX6_in p2 0 1).bind (fun r3 => if r3 = 0 then (some ((-1), tri_M)) else (lp (bX6_off_31 now_M p1 p2) FU ((-4), (-4), 0, tri_M)))))
theorem in_X6_off_X6 : ∀ w ∈ wsX60, w ∈ wsX6_off := by decide +kernel
set_option maxHeartbeats 4000000 in
set_option maxRecDepth 100000 in
theorem ct_X6_off {l : Launch} {D : va_G} {g : Nat → ClassId} {qa : Nat → Nat} {E0 : Nat → va_E} {p1 : Int32} {p2 : Int32} {ltr_M : Int32} {pos_M : Int32} {num_M : Int32} {isk_M : Int32} {bm_M : Int32} {bch_M : Int32} {lan_M : Nat → Int32} {siz_M : Nat → Int32} {itm_M : Nat → Int64} {tap_M : Nat → Int32} {now_M : Nat → Int32} {tri_M : Nat → Int32} {rd_M : Nat → Int32} {kp_M : Nat → Int32} {bes_M : Nat → Int32} (hG_M : Mo g qa E0 64 ltr_M pos_M num_M isk_M bm_M bch_M lan_M siz_M itm_M tap_M now_M tri_M rd_M kp_M bes_M) {R : (Int32 × (Nat → Int32))} (hf : fX6_off p1 p2 now_M tri_M = some R) : MI l yX6_off wsX6_off 7 D g qa E0 [.ref (qa 64), .int p1, .int p2] R.1 (fun E => Mo g qa E 64 ltr_M pos_M num_M isk_M bm_M bch_M lan_M siz_M itm_M tap_M now_M R.2 rd_M kp_M bes_M ∧ ∀ j, (j < 64 ∨ 74 ≤ j) → E j = E0 j) := by
  refine MI.mk (by decide) rfl (Nat.le_of_ble_eq_true rfl) ?_
  intro p e s m args below meth c ls Q X hret hP hS hl
  have hl : lv_has ls 7 [(0, .ref (qa 64)), (1, .int p1), (2, .int p2)] := hl
  have hfr : ∀ j, (j < 64 ∨ 74 ≤ j) → E0 j = E0 j := fun _ _ => rfl
  rw [fX6_off] at hf
  refine lv_iload_n X.1 X.2.1 dX6_off_0 rfl (lv_at hl 1 rfl) ?_
  refine lv_iconst (v := 1) X.1 X.2.1 dX6_off_1 (by decide) ?_
  refine lv_bipush (v := 40) X.1 X.2.1 dX6_off_2 (by decide) ?_
  obtain ⟨r1, hr1, hf⟩ := bd_of hf
  refine x_rdSi X hP hS (index := 38) (n := 3) (As := [.int p1, .int 1, .int 40]) (ct_X6_in  hr1) ggX6_off_X6_in (by decide +kernel) (by decide +kernel) (by decide +kernel) rfl (by decide +kernel) ⟨by decide, by decide⟩ rfl hl.1 rfl (Nat.le_of_ble_eq_true rfl) dX6_off_4 (fun H locs hP hS => ?_)
  refine lv_if_eq (tgt := 19) X.1 X.2.1 dX6_off_7 (by decide) (fun c2 => ?_) (fun c2 => ?_)
  · have hf := ifp hf c2
    refine lv_iconst (v := (-1)) X.1 X.2.1 dX6_off_19 (by decide) ?_
    obtain rfl := Option.some.inj hf
    exact hret _ _ _ _ _ _ dX6_off_20 rfl rfl (⟨hG_M, hfr⟩) hP hS
  · have hf := ifn hf c2
    refine lv_iload_n X.1 X.2.1 dX6_off_10 rfl (lv_at hl 2 rfl) ?_
    refine lv_iconst (v := 0) X.1 X.2.1 dX6_off_11 (by decide) ?_
    refine lv_iconst (v := 1) X.1 X.2.1 dX6_off_12 (by decide) ?_
    obtain ⟨r3, hr3, hf⟩ := bd_of hf
    refine x_rdSi X hP hS (index := 38) (n := 3) (As := [.int p2, .int 0, .int 1]) (ct_X6_in  hr3) ggX6_off_X6_in (by decide +kernel) (by decide +kernel) (by decide +kernel) rfl (by decide +kernel) ⟨by decide, by decide⟩ rfl hl.1 rfl (Nat.le_of_ble_eq_true rfl) dX6_off_13 (fun H locs hP hS => ?_)
    refine lv_if_ne (tgt := 21) X.1 X.2.1 dX6_off_16 (by decide) (fun c4 => ?_) (fun c4 => ?_)
    · have hf := ifn hf c4
      refine lv_bipush (v := (-4)) X.1 X.2.1 dX6_off_21 (by decide) ?_
      refine lv_istore_n (lv' := [(3, .int (-4)), (0, .ref (qa 64)), (1, .int p1), (2, .int p2)]) X.1 X.2.1 dX6_off_23 rfl hl (by decide) rfl (fun ls hl => ?_)
      refine lv_bipush (v := (-4)) X.1 X.2.1 dX6_off_24 (by decide) ?_
      refine lv_istore (lv' := [(4, .int (-4)), (3, .int (-4)), (0, .ref (qa 64)), (1, .int p1), (2, .int p2)]) X.1 X.2.1 dX6_off_26 hl (by decide) rfl (fun ls hl => ?_)
      refine lv_iconst (v := 0) X.1 X.2.1 dX6_off_28 (by decide) ?_
      refine lv_istore (lv' := [(5, .int 0), (4, .int (-4)), (3, .int (-4)), (0, .ref (qa 64)), (1, .int p1), (2, .int p2)]) X.1 X.2.1 dX6_off_29 hl (by decide) rfl (fun ls hl => ?_)
      have lp5 : ∀ (n5 : Nat) (v3_5 : Int32) (v4_5 : Int32) (v5_5 : Int32) (tri_M_5 : Nat → Int32) (E : Nat → va_E) (H : Heap) (locs : List Loc) (ls : Array Slot), lp (bX6_off_31 now_M p1 p2) n5 (v3_5, v4_5, v5_5, tri_M_5) = some R → va_P D vwCl (WD qa E) H → va_S (gA qa s.heap.size) s.heap H locs → Mo g qa E 64 ltr_M pos_M num_M isk_M bm_M bch_M lan_M siz_M itm_M tap_M now_M tri_M_5 rd_M kp_M bes_M → (∀ j, (j < 64 ∨ 74 ≤ j) → E j = E0 j) → lv_has ls 7 [(0, .ref (qa 64)), (1, .int p1), (2, .int p2), (3, .int v3_5), (4, .int v4_5), (5, .int v5_5)] → W p l e (rmf 7) s m args below meth c H locs 0 0 Q (F0 m 31 ls []) := by
        intro n5
        induction n5 with
        | zero =>
          intro v3_5 v4_5 v5_5 tri_M_5 E H locs ls hf
          exact absurd hf (by intro h; cases h)
        | succ n5 ih5 =>
          intro v3_5 v4_5 v5_5 tri_M_5 E H locs ls hf hP hS hG_M hfr hl
          have hf : bX6_off_31 now_M p1 p2 (lp (bX6_off_31 now_M p1 p2) n5) (v3_5, v4_5, v5_5, tri_M_5) = some R := hf
          rw [bX6_off_31] at hf
          refine lv_iload X.1 X.2.1 dX6_off_31 (lv_at hl 5 rfl) ?_
          refine lv_aload_n X.1 X.2.1 dX6_off_33 rfl (lv_at hl 0 rfl) ?_
          refine x_get X hP hG_M.1 (by omega) rfl in_X6_off_X6 7 (by decide) (by decide +kernel) rfl rfl dX6_off_34 ?_
          refine lv_bipush (v := 25) X.1 X.2.1 dX6_off_37 (by decide) ?_
          obtain ⟨hi6, hf⟩ := gin_of hf
          refine x_iald X hP hG_M.2.2.2.2.2.1 (by omega) hi6 dX6_off_39 ?_
          refine lv_icmp_ge (tgt := 117) X.1 X.2.1 dX6_off_40 (by decide) (fun c7 => ?_) (fun c7 => ?_)
          · have hf := ifp hf c7
            refine lv_iload_n X.1 X.2.1 dX6_off_117 rfl (lv_at hl 2 rfl) ?_
            refine lv_if_ne (tgt := 125) X.1 X.2.1 dX6_off_118 (by decide) (fun c8 => ?_) (fun c8 => ?_)
            · have hf := ifn hf c8
              refine lv_iload X.1 X.2.1 dX6_off_125 (lv_at hl 4 rfl) ?_
              obtain rfl := Option.some.inj hf
              exact hret _ _ _ _ _ _ dX6_off_127 rfl rfl (⟨hG_M, hfr⟩) hP hS
            · have hf := ifp hf c8
              refine lv_iload_n X.1 X.2.1 dX6_off_121 rfl (lv_at hl 3 rfl) ?_
              refine lv_goto (tgt := 127) X.1 X.2.1 dX6_off_122 (by decide) ?_
              obtain rfl := Option.some.inj hf
              exact hret _ _ _ _ _ _ dX6_off_127 rfl rfl (⟨hG_M, hfr⟩) hP hS
          · have hf := ifn hf c7
            refine lv_aload_n X.1 X.2.1 dX6_off_43 rfl (lv_at hl 0 rfl) ?_
            refine x_get X hP hG_M.1 (by omega) rfl in_X6_off_X6 7 (by decide) (by decide +kernel) rfl rfl dX6_off_44 ?_
            refine lv_bipush (v := 13) X.1 X.2.1 dX6_off_47 (by decide) ?_
            refine lv_iload X.1 X.2.1 dX6_off_49 (lv_at hl 5 rfl) ?_
            refine lv_iadd X.1 X.2.1 dX6_off_51 ?_
            obtain ⟨hi9, hf⟩ := gin_of hf
            refine x_iald X hP hG_M.2.2.2.2.2.1 (by omega) hi9 dX6_off_52 ?_
            refine lv_bipush (v := (-4)) X.1 X.2.1 dX6_off_53 (by decide) ?_
            refine lv_icmp_eq (tgt := 111) X.1 X.2.1 dX6_off_55 (by decide) (fun c10 => ?_) (fun c10 => ?_)
            · have hf := ifp hf c10
              obtain ⟨x11, ex11, hf⟩ := nm_of hf
              refine lv_iinc (v := x11) (lv' := [(5, .int x11), (0, .ref (qa 64)), (1, .int p1), (2, .int p2), (3, .int v3_5), (4, .int v4_5)]) X.1 X.2.1 dX6_off_111 hl (k := 5) rfl (by rw [ex11]; rfl) (by decide) rfl (fun ls hl => ?_)
              refine lv_goto (tgt := 31) X.1 X.2.1 dX6_off_114 (by decide) ?_
              exact ih5 v3_5 v4_5 x11 tri_M_5 _ _ _ _ hf hP hS hG_M hfr (lv_sub hl [1, 2, 3, 4, 5, 0] rfl)
            · have hf := ifn hf c10
              refine lv_aload_n X.1 X.2.1 dX6_off_58 rfl (lv_at hl 0 rfl) ?_
              obtain ⟨r12, hr12, hf⟩ := bd_of hf
              refine x_callVv X hP hS hG_M.1 (by omega) rfl (n := 0) (As := []) (ct_X6_begin hG_M hr12) gX6_off_X6_begin rfl (by decide +kernel) ⟨by decide, by decide⟩ rfl hl.1 rfl (Nat.le_of_ble_eq_true rfl) dX6_off_59 (fun E H locs hp hP hS => ?_)
              obtain ⟨hW_M, hk⟩ := hp
              have hG_M := hW_M
              have hfr : ∀ j, (j < 64 ∨ 74 ≤ j) → E j = E0 j := fun j o0 => (hk j (by omega)).trans (hfr j o0)
              refine lv_aload_n X.1 X.2.1 dX6_off_62 rfl (lv_at hl 0 rfl) ?_
              refine x_get X hP hG_M.1 (by omega) rfl in_X6_off_X6 8 (by decide) (by decide +kernel) rfl rfl dX6_off_63 ?_
              refine lv_bipush (v := 13) X.1 X.2.1 dX6_off_66 (by decide) ?_
              refine lv_iload X.1 X.2.1 dX6_off_68 (lv_at hl 5 rfl) ?_
              refine lv_iadd X.1 X.2.1 dX6_off_70 ?_
              refine lv_bipush (v := (-4)) X.1 X.2.1 dX6_off_71 (by decide) ?_
              obtain ⟨hi13, hf⟩ := gin_of hf
              refine x_iast X hP hS hG_M.2.2.2.2.2.2.1 (by omega) hi13 dX6_off_73 (fun E H locs h1 hk hP hS => ?_)
              have hG_M := Mo_set_6 hG_M h1 hk
              have hfr : ∀ j, (j < 64 ∨ 74 ≤ j) → E j = E0 j := fun j o0 => (hk j (by omega)).trans (hfr j o0)
              refine lv_aload_n X.1 X.2.1 dX6_off_74 rfl (lv_at hl 0 rfl) ?_
              refine lv_iload_n X.1 X.2.1 dX6_off_75 rfl (lv_at hl 1 rfl) ?_
              obtain ⟨r14, hr14, hf⟩ := bd_of hf
              refine x_callVv X hP hS hG_M.1 (by omega) rfl (n := 1) (As := [.int p1]) (ct_X6_goOn hG_M hr14) gX6_off_X6_goOn rfl (by decide +kernel) ⟨by decide, by decide⟩ rfl hl.1 rfl (Nat.le_of_ble_eq_true rfl) dX6_off_76 (fun E H locs hp hP hS => ?_)
              obtain ⟨hW_M, hk⟩ := hp
              have hG_M := hW_M
              have hfr : ∀ j, (j < 64 ∨ 74 ≤ j) → E j = E0 j := fun j o0 => (hk j (by omega)).trans (hfr j o0)
              refine lv_aload_n X.1 X.2.1 dX6_off_79 rfl (lv_at hl 0 rfl) ?_
              refine x_get X hP hG_M.1 (by omega) rfl in_X6_off_X6 8 (by decide) (by decide +kernel) rfl rfl dX6_off_80 ?_
              obtain ⟨r15, hr15, hf⟩ := bd_of hf
              refine x_rdSi X hP hS (index := 118) (n := 1) (As := [.ref (qa (64 + 6))]) (ct_X6_bentOnes (by omega) hG_M.2.2.2.2.2.2.1 hr15) ggX6_off_X6_bentOnes (by decide +kernel) (by decide +kernel) (by decide +kernel) rfl (by decide +kernel) ⟨by decide, by decide⟩ rfl hl.1 rfl (Nat.le_of_ble_eq_true rfl) dX6_off_83 (fun H locs hP hS => ?_)
              obtain ⟨r16, hr16, hf⟩ := bd_of hf
              refine x_rdSi X hP hS (index := 57) (n := 1) (As := [.int r15]) (ct_X6_bits  hr16) ggX6_off_X6_bits (by decide +kernel) (by decide +kernel) (by decide +kernel) rfl (by decide +kernel) ⟨by decide, by decide⟩ rfl hl.1 rfl (Nat.le_of_ble_eq_true rfl) dX6_off_86 (fun H locs hP hS => ?_)
              refine lv_istore (lv' := [(6, .int r16), (0, .ref (qa 64)), (1, .int p1), (2, .int p2), (3, .int v3_5), (4, .int v4_5), (5, .int v5_5)]) X.1 X.2.1 dX6_off_89 hl (by decide) rfl (fun ls hl => ?_)
              refine lv_iload_n X.1 X.2.1 dX6_off_91 rfl (lv_at hl 4 rfl) ?_
              refine lv_bipush (v := (-4)) X.1 X.2.1 dX6_off_92 (by decide) ?_
              refine lv_icmp_eq (tgt := 104) X.1 X.2.1 dX6_off_94 (by decide) (fun c17 => ?_) (fun c17 => ?_)
              · have hf := ifp hf c17
                refine lv_iload X.1 X.2.1 dX6_off_104 (lv_at hl 6 rfl) ?_
                refine lv_istore_n (lv' := [(3, .int v5_5), (6, .int r16), (0, .ref (qa 64)), (1, .int p1), (2, .int p2), (4, .int v4_5), (5, .int v5_5)]) X.1 X.2.1 dX6_off_106 rfl hl (by decide) rfl (fun ls hl => ?_)
                refine lv_iload X.1 X.2.1 dX6_off_107 (lv_at hl 1 rfl) ?_
                refine lv_istore (lv' := [(4, .int r16), (3, .int v5_5), (6, .int r16), (0, .ref (qa 64)), (1, .int p1), (2, .int p2), (5, .int v5_5)]) X.1 X.2.1 dX6_off_109 hl (by decide) rfl (fun ls hl => ?_)
                obtain ⟨x18, ex18, hf⟩ := nm_of hf
                refine lv_iinc (v := x18) (lv' := [(5, .int x18), (4, .int r16), (3, .int v5_5), (6, .int r16), (0, .ref (qa 64)), (1, .int p1), (2, .int p2)]) X.1 X.2.1 dX6_off_111 hl (k := 6) rfl (by rw [ex18]; rfl) (by decide) rfl (fun ls hl => ?_)
                refine lv_goto (tgt := 31) X.1 X.2.1 dX6_off_114 (by decide) ?_
                exact ih5 v5_5 r16 x18 r14 _ _ _ _ hf hP hS hG_M hfr (lv_sub hl [4, 5, 6, 2, 1, 0] rfl)
              · have hf := ifn hf c17
                refine lv_iload X.1 X.2.1 dX6_off_97 (lv_at hl 0 rfl) ?_
                refine lv_iload X.1 X.2.1 dX6_off_99 (lv_at hl 5 rfl) ?_
                refine lv_icmp_ge (tgt := 111) X.1 X.2.1 dX6_off_101 (by decide) (fun c19 => ?_) (fun c19 => ?_)
                · have hf := ifp hf c19
                  obtain ⟨x20, ex20, hf⟩ := nm_of hf
                  refine lv_iinc (v := x20) (lv' := [(5, .int x20), (6, .int r16), (0, .ref (qa 64)), (1, .int p1), (2, .int p2), (3, .int v3_5), (4, .int v4_5)]) X.1 X.2.1 dX6_off_111 hl (k := 6) rfl (by rw [ex20]; rfl) (by decide) rfl (fun ls hl => ?_)
                  refine lv_goto (tgt := 31) X.1 X.2.1 dX6_off_114 (by decide) ?_
                  exact ih5 v3_5 v4_5 x20 r14 _ _ _ _ hf hP hS hG_M hfr (lv_sub hl [2, 3, 4, 5, 6, 0] rfl)
                · have hf := ifn hf c19
                  refine lv_iload X.1 X.2.1 dX6_off_104 (lv_at hl 6 rfl) ?_
                  refine lv_istore_n (lv' := [(3, .int v5_5), (6, .int r16), (0, .ref (qa 64)), (1, .int p1), (2, .int p2), (4, .int v4_5), (5, .int v5_5)]) X.1 X.2.1 dX6_off_106 rfl hl (by decide) rfl (fun ls hl => ?_)
                  refine lv_iload X.1 X.2.1 dX6_off_107 (lv_at hl 1 rfl) ?_
                  refine lv_istore (lv' := [(4, .int r16), (3, .int v5_5), (6, .int r16), (0, .ref (qa 64)), (1, .int p1), (2, .int p2), (5, .int v5_5)]) X.1 X.2.1 dX6_off_109 hl (by decide) rfl (fun ls hl => ?_)
                  obtain ⟨x21, ex21, hf⟩ := nm_of hf
                  refine lv_iinc (v := x21) (lv' := [(5, .int x21), (4, .int r16), (3, .int v5_5), (6, .int r16), (0, .ref (qa 64)), (1, .int p1), (2, .int p2)]) X.1 X.2.1 dX6_off_111 hl (k := 6) rfl (by rw [ex21]; rfl) (by decide) rfl (fun ls hl => ?_)
                  refine lv_goto (tgt := 31) X.1 X.2.1 dX6_off_114 (by decide) ?_
                  exact ih5 v5_5 r16 x21 r14 _ _ _ _ hf hP hS hG_M hfr (lv_sub hl [4, 5, 6, 2, 1, 0] rfl)
      exact lp5 FU (-4) (-4) 0 tri_M _ _ _ _ hf hP hS hG_M hfr (lv_sub hl [3, 4, 5, 2, 1, 0] rfl)
    · have hf := ifp hf c4
      refine lv_iconst (v := (-1)) X.1 X.2.1 dX6_off_19 (by decide) ?_
      obtain rfl := Option.some.inj hf
      exact hret _ _ _ _ _ _ dX6_off_20 rfl rfl (⟨hG_M, hfr⟩) hP hS
def fX6_polish (p1 : Int32) (p2 : Int32)  (now_M : Nat → Int32) : Option (Int32 × (Nat → Int32)) := (fX6_isMedal p1 now_M).bind (fun r1 => if r1 = 0 then (some ((-1), now_M)) else ((fX6_in p2 1 20).bind (fun r3 => if r3 = 0 then (some ((-1), now_M)) else (gin (7 + p1) 191 (if (now_M (Int32.toNatClampNeg (7 + p1))) = 20 then (some ((-2), now_M)) else ((fX6_note now_M).bind (fun r7 => gin (7 + p1) 191 (if ((r7 (Int32.toNatClampNeg (7 + p1))) + p2) ≤ 20 then (gin (7 + p1) 191 (gin (7 + p1) 191 (gin (7 + p1) 191 (some ((upd r7 (Int32.toNatClampNeg (7 + p1)) ((r7 (Int32.toNatClampNeg (7 + p1))) + p2)) (Int32.toNatClampNeg (7 + p1)), upd r7 (Int32.toNatClampNeg (7 + p1)) ((r7 (Int32.toNatClampNeg (7 + p1))) + p2)))))) else (gin (7 + p1) 191 (gin (7 + p1) 191 (some ((upd r7 (Int32.toNatClampNeg (7 + p1)) 20) (Int32.toNatClampNeg (7 + p1)), upd r7 (Int32.toNatClampNeg (7 + p1)) 20))))))))))))
theorem in_X6_polish_X6 : ∀ w ∈ wsX60, w ∈ wsX6_polish := by decide +kernel
set_option maxHeartbeats 4000000 in
set_option maxRecDepth 100000 in
theorem ct_X6_polish {l : Launch} {D : va_G} {g : Nat → ClassId} {qa : Nat → Nat} {E0 : Nat → va_E} {p1 : Int32} {p2 : Int32} {ltr_M : Int32} {pos_M : Int32} {num_M : Int32} {isk_M : Int32} {bm_M : Int32} {bch_M : Int32} {lan_M : Nat → Int32} {siz_M : Nat → Int32} {itm_M : Nat → Int64} {tap_M : Nat → Int32} {now_M : Nat → Int32} {tri_M : Nat → Int32} {rd_M : Nat → Int32} {kp_M : Nat → Int32} {bes_M : Nat → Int32} (hG_M : Mo g qa E0 64 ltr_M pos_M num_M isk_M bm_M bch_M lan_M siz_M itm_M tap_M now_M tri_M rd_M kp_M bes_M) {R : (Int32 × (Nat → Int32))} (hf : fX6_polish p1 p2 now_M = some R) : MI l yX6_polish wsX6_polish 2 D g qa E0 [.ref (qa 64), .int p1, .int p2] R.1 (fun E => Mo g qa E 64 ltr_M pos_M num_M isk_M bm_M bch_M lan_M siz_M itm_M tap_M R.2 tri_M rd_M kp_M bes_M ∧ ∀ j, (j < 64 ∨ 74 ≤ j) → E j = E0 j) := by
  refine MI.mk (by decide) rfl (Nat.le_of_ble_eq_true rfl) ?_
  intro p e s m args below meth c ls Q X hret hP hS hl
  have hl : lv_has ls 3 [(0, .ref (qa 64)), (1, .int p1), (2, .int p2)] := hl
  have hfr : ∀ j, (j < 64 ∨ 74 ≤ j) → E0 j = E0 j := fun _ _ => rfl
  rw [fX6_polish] at hf
  refine lv_aload_n X.1 X.2.1 dX6_polish_0 rfl (lv_at hl 0 rfl) ?_
  refine lv_iload_n X.1 X.2.1 dX6_polish_1 rfl (lv_at hl 1 rfl) ?_
  obtain ⟨r1, hr1, hf⟩ := bd_of hf
  refine x_rdVi X hP hS hG_M.1 (by omega) rfl (n := 1) (As := [.int p1]) (ct_X6_isMedal hG_M hr1) gX6_polish_X6_isMedal rfl (by decide +kernel) ⟨by decide, by decide⟩ rfl hl.1 rfl (Nat.le_of_ble_eq_true rfl) dX6_polish_2 (fun H locs hP hS => ?_)
  refine lv_if_eq (tgt := 18) X.1 X.2.1 dX6_polish_5 (by decide) (fun c2 => ?_) (fun c2 => ?_)
  · have hf := ifp hf c2
    refine lv_iconst (v := (-1)) X.1 X.2.1 dX6_polish_18 (by decide) ?_
    obtain rfl := Option.some.inj hf
    exact hret _ _ _ _ _ _ dX6_polish_19 rfl rfl (⟨hG_M, hfr⟩) hP hS
  · have hf := ifn hf c2
    refine lv_iload_n X.1 X.2.1 dX6_polish_8 rfl (lv_at hl 2 rfl) ?_
    refine lv_iconst (v := 1) X.1 X.2.1 dX6_polish_9 (by decide) ?_
    refine lv_bipush (v := 20) X.1 X.2.1 dX6_polish_10 (by decide) ?_
    obtain ⟨r3, hr3, hf⟩ := bd_of hf
    refine x_rdSi X hP hS (index := 38) (n := 3) (As := [.int p2, .int 1, .int 20]) (ct_X6_in  hr3) ggX6_polish_X6_in (by decide +kernel) (by decide +kernel) (by decide +kernel) rfl (by decide +kernel) ⟨by decide, by decide⟩ rfl hl.1 rfl (Nat.le_of_ble_eq_true rfl) dX6_polish_12 (fun H locs hP hS => ?_)
    refine lv_if_ne (tgt := 20) X.1 X.2.1 dX6_polish_15 (by decide) (fun c4 => ?_) (fun c4 => ?_)
    · have hf := ifn hf c4
      refine lv_aload_n X.1 X.2.1 dX6_polish_20 rfl (lv_at hl 0 rfl) ?_
      refine x_get X hP hG_M.1 (by omega) rfl in_X6_polish_X6 7 (by decide) (by decide +kernel) rfl rfl dX6_polish_21 ?_
      refine lv_bipush (v := 7) X.1 X.2.1 dX6_polish_24 (by decide) ?_
      refine lv_iload_n X.1 X.2.1 dX6_polish_26 rfl (lv_at hl 1 rfl) ?_
      refine lv_iadd X.1 X.2.1 dX6_polish_27 ?_
      obtain ⟨hi5, hf⟩ := gin_of hf
      refine x_iald X hP hG_M.2.2.2.2.2.1 (by omega) hi5 dX6_polish_28 ?_
      refine lv_bipush (v := 20) X.1 X.2.1 dX6_polish_29 (by decide) ?_
      refine lv_icmp_ne (tgt := 37) X.1 X.2.1 dX6_polish_31 (by decide) (fun c6 => ?_) (fun c6 => ?_)
      · have hf := ifn hf c6
        refine lv_aload_n X.1 X.2.1 dX6_polish_37 rfl (lv_at hl 0 rfl) ?_
        obtain ⟨r7, hr7, hf⟩ := bd_of hf
        refine x_callVv X hP hS hG_M.1 (by omega) rfl (n := 0) (As := []) (ct_X6_note hG_M hr7) gX6_polish_X6_note rfl (by decide +kernel) ⟨by decide, by decide⟩ rfl hl.1 rfl (Nat.le_of_ble_eq_true rfl) dX6_polish_38 (fun E H locs hp hP hS => ?_)
        obtain ⟨hW_M, hk⟩ := hp
        have hG_M := hW_M
        have hfr : ∀ j, (j < 64 ∨ 74 ≤ j) → E j = E0 j := fun j o0 => (hk j (by omega)).trans (hfr j o0)
        refine lv_aload_n X.1 X.2.1 dX6_polish_41 rfl (lv_at hl 0 rfl) ?_
        refine x_get X hP hG_M.1 (by omega) rfl in_X6_polish_X6 7 (by decide) (by decide +kernel) rfl rfl dX6_polish_42 ?_
        refine lv_bipush (v := 7) X.1 X.2.1 dX6_polish_45 (by decide) ?_
        refine lv_iload_n X.1 X.2.1 dX6_polish_47 rfl (lv_at hl 1 rfl) ?_
        refine lv_iadd X.1 X.2.1 dX6_polish_48 ?_
        refine lv_aload_n X.1 X.2.1 dX6_polish_49 rfl (lv_at hl 0 rfl) ?_
        refine x_get X hP hG_M.1 (by omega) rfl in_X6_polish_X6 7 (by decide) (by decide +kernel) rfl rfl dX6_polish_50 ?_
        refine lv_bipush (v := 7) X.1 X.2.1 dX6_polish_53 (by decide) ?_
        refine lv_iload_n X.1 X.2.1 dX6_polish_55 rfl (lv_at hl 1 rfl) ?_
        refine lv_iadd X.1 X.2.1 dX6_polish_56 ?_
        obtain ⟨hi8, hf⟩ := gin_of hf
        refine x_iald X hP hG_M.2.2.2.2.2.1 (by omega) hi8 dX6_polish_57 ?_
        refine lv_iload_n X.1 X.2.1 dX6_polish_58 rfl (lv_at hl 2 rfl) ?_
        refine lv_iadd X.1 X.2.1 dX6_polish_59 ?_
        refine lv_bipush (v := 20) X.1 X.2.1 dX6_polish_60 (by decide) ?_
        refine lv_icmp_le (tgt := 70) X.1 X.2.1 dX6_polish_62 (by decide) (fun c9 => ?_) (fun c9 => ?_)
        · have hf := ifp hf c9
          refine lv_aload_n X.1 X.2.1 dX6_polish_70 rfl (lv_at hl 0 rfl) ?_
          refine x_get X hP hG_M.1 (by omega) rfl in_X6_polish_X6 7 (by decide) (by decide +kernel) rfl rfl dX6_polish_71 ?_
          refine lv_bipush (v := 7) X.1 X.2.1 dX6_polish_74 (by decide) ?_
          refine lv_iload_n X.1 X.2.1 dX6_polish_76 rfl (lv_at hl 1 rfl) ?_
          refine lv_iadd X.1 X.2.1 dX6_polish_77 ?_
          obtain ⟨hi10, hf⟩ := gin_of hf
          refine x_iald X hP hG_M.2.2.2.2.2.1 (by omega) hi10 dX6_polish_78 ?_
          refine lv_iload_n X.1 X.2.1 dX6_polish_79 rfl (lv_at hl 2 rfl) ?_
          refine lv_iadd X.1 X.2.1 dX6_polish_80 ?_
          obtain ⟨hi11, hf⟩ := gin_of hf
          refine x_iast X hP hS hG_M.2.2.2.2.2.1 (by omega) hi11 dX6_polish_81 (fun E H locs h1 hk hP hS => ?_)
          have hG_M := Mo_set_5 hG_M h1 hk
          have hfr : ∀ j, (j < 64 ∨ 74 ≤ j) → E j = E0 j := fun j o0 => (hk j (by omega)).trans (hfr j o0)
          refine lv_aload_n X.1 X.2.1 dX6_polish_82 rfl (lv_at hl 0 rfl) ?_
          refine x_get X hP hG_M.1 (by omega) rfl in_X6_polish_X6 7 (by decide) (by decide +kernel) rfl rfl dX6_polish_83 ?_
          refine lv_bipush (v := 7) X.1 X.2.1 dX6_polish_86 (by decide) ?_
          refine lv_iload_n X.1 X.2.1 dX6_polish_88 rfl (lv_at hl 1 rfl) ?_
          refine lv_iadd X.1 X.2.1 dX6_polish_89 ?_
          obtain ⟨hi12, hf⟩ := gin_of hf
          refine x_iald X hP hG_M.2.2.2.2.2.1 (by omega) hi12 dX6_polish_90 ?_
          obtain rfl := Option.some.inj hf
          exact hret _ _ _ _ _ _ dX6_polish_91 rfl rfl (⟨hG_M, hfr⟩) hP hS
        · have hf := ifn hf c9
          refine lv_bipush (v := 20) X.1 X.2.1 dX6_polish_65 (by decide) ?_
          refine lv_goto (tgt := 81) X.1 X.2.1 dX6_polish_67 (by decide) ?_
          obtain ⟨hi13, hf⟩ := gin_of hf
          refine x_iast X hP hS hG_M.2.2.2.2.2.1 (by omega) hi13 dX6_polish_81 (fun E H locs h1 hk hP hS => ?_)
          have hG_M := Mo_set_5 hG_M h1 hk
          have hfr : ∀ j, (j < 64 ∨ 74 ≤ j) → E j = E0 j := fun j o0 => (hk j (by omega)).trans (hfr j o0)
          refine lv_aload_n X.1 X.2.1 dX6_polish_82 rfl (lv_at hl 0 rfl) ?_
          refine x_get X hP hG_M.1 (by omega) rfl in_X6_polish_X6 7 (by decide) (by decide +kernel) rfl rfl dX6_polish_83 ?_
          refine lv_bipush (v := 7) X.1 X.2.1 dX6_polish_86 (by decide) ?_
          refine lv_iload_n X.1 X.2.1 dX6_polish_88 rfl (lv_at hl 1 rfl) ?_
          refine lv_iadd X.1 X.2.1 dX6_polish_89 ?_
          obtain ⟨hi14, hf⟩ := gin_of hf
          refine x_iald X hP hG_M.2.2.2.2.2.1 (by omega) hi14 dX6_polish_90 ?_
          obtain rfl := Option.some.inj hf
          exact hret _ _ _ _ _ _ dX6_polish_91 rfl rfl (⟨hG_M, hfr⟩) hP hS
      · have hf := ifp hf c6
        refine lv_bipush (v := (-2)) X.1 X.2.1 dX6_polish_34 (by decide) ?_
        obtain rfl := Option.some.inj hf
        exact hret _ _ _ _ _ _ dX6_polish_36 rfl rfl (⟨hG_M, hfr⟩) hP hS
    · have hf := ifp hf c4
      refine lv_iconst (v := (-1)) X.1 X.2.1 dX6_polish_18 (by decide) ?_
      obtain rfl := Option.some.inj hf
      exact hret _ _ _ _ _ _ dX6_polish_19 rfl rfl (⟨hG_M, hfr⟩) hP hS
def fX6_restore   (isk_M : Int32) (now_M : Nat → Int32) (kp_M : Nat → Int32) : Option (Int32 × (Nat → Int32)) := if isk_M = 0 then (some ((-4), now_M)) else ((fX6_bring_d 0 0 191 191 kp_M now_M).bind (fun r2 => some (1, r2)))
theorem in_X6_restore_X6 : ∀ w ∈ wsX60, w ∈ wsX6_restore := by decide +kernel
set_option maxHeartbeats 4000000 in
set_option maxRecDepth 100000 in
theorem ct_X6_restore {l : Launch} {D : va_G} {g : Nat → ClassId} {qa : Nat → Nat} {E0 : Nat → va_E} {ltr_M : Int32} {pos_M : Int32} {num_M : Int32} {isk_M : Int32} {bm_M : Int32} {bch_M : Int32} {lan_M : Nat → Int32} {siz_M : Nat → Int32} {itm_M : Nat → Int64} {tap_M : Nat → Int32} {now_M : Nat → Int32} {tri_M : Nat → Int32} {rd_M : Nat → Int32} {kp_M : Nat → Int32} {bes_M : Nat → Int32} (hG_M : Mo g qa E0 64 ltr_M pos_M num_M isk_M bm_M bch_M lan_M siz_M itm_M tap_M now_M tri_M rd_M kp_M bes_M) {R : (Int32 × (Nat → Int32))} (hf : fX6_restore isk_M now_M kp_M = some R) : MI l yX6_restore wsX6_restore 1 D g qa E0 [.ref (qa 64)] R.1 (fun E => Mo g qa E 64 ltr_M pos_M num_M isk_M bm_M bch_M lan_M siz_M itm_M tap_M R.2 tri_M rd_M kp_M bes_M ∧ ∀ j, (j < 64 ∨ 74 ≤ j) → E j = E0 j) := by
  refine MI.mk (by decide) rfl (Nat.le_of_ble_eq_true rfl) ?_
  intro p e s m args below meth c ls Q X hret hP hS hl
  have hl : lv_has ls 1 [(0, .ref (qa 64))] := hl
  have hfr : ∀ j, (j < 64 ∨ 74 ≤ j) → E0 j = E0 j := fun _ _ => rfl
  rw [fX6_restore] at hf
  refine lv_aload_n X.1 X.2.1 dX6_restore_0 rfl (lv_at hl 0 rfl) ?_
  refine x_get X hP hG_M.1 (by omega) rfl in_X6_restore_X6 11 (by decide) (by decide +kernel) rfl rfl dX6_restore_1 ?_
  refine lv_if_ne (tgt := 10) X.1 X.2.1 dX6_restore_4 (by decide) (fun c1 => ?_) (fun c1 => ?_)
  · have hf := ifn hf c1
    refine lv_aload_n X.1 X.2.1 dX6_restore_10 rfl (lv_at hl 0 rfl) ?_
    refine x_get X hP hG_M.1 (by omega) rfl in_X6_restore_X6 10 (by decide) (by decide +kernel) rfl rfl dX6_restore_11 ?_
    refine lv_iconst (v := 0) X.1 X.2.1 dX6_restore_14 (by decide) ?_
    refine lv_aload_n X.1 X.2.1 dX6_restore_15 rfl (lv_at hl 0 rfl) ?_
    refine x_get X hP hG_M.1 (by omega) rfl in_X6_restore_X6 7 (by decide) (by decide +kernel) rfl rfl dX6_restore_16 ?_
    refine lv_iconst (v := 0) X.1 X.2.1 dX6_restore_19 (by decide) ?_
    refine lv_sipush (v := 191) X.1 X.2.1 dX6_restore_20 (by decide) ?_
    obtain ⟨r2, hr2, hf⟩ := bd_of hf
    refine x_callSv X hP hS (index := 114) (n := 5) (As := [.ref (qa (64 + 8)), .int 0, .ref (qa (64 + 5)), .int 0, .int 191]) (ct_X6_bring_d (by omega) hG_M.2.2.2.2.2.2.2.2.1 (by omega) hG_M.2.2.2.2.2.1 (by omega) hr2) ggX6_restore_X6_bring (by decide +kernel) (by decide +kernel) (by decide +kernel) rfl (by decide +kernel) ⟨by decide, by decide⟩ rfl hl.1 rfl (Nat.le_of_ble_eq_true rfl) dX6_restore_23 (fun E H locs hp hP hS => ?_)
    obtain ⟨hW_d, hk⟩ := hp
    have hG_M := Mo_set_5 hG_M hW_d hk
    have hfr : ∀ j, (j < 64 ∨ 74 ≤ j) → E j = E0 j := fun j o0 => (hk j (by omega)).trans (hfr j o0)
    refine lv_iconst (v := 1) X.1 X.2.1 dX6_restore_26 (by decide) ?_
    obtain rfl := Option.some.inj hf
    exact hret _ _ _ _ _ _ dX6_restore_27 rfl rfl (⟨hG_M, hfr⟩) hP hS
  · have hf := ifp hf c1
    refine lv_bipush (v := (-4)) X.1 X.2.1 dX6_restore_7 (by decide) ?_
    obtain rfl := Option.some.inj hf
    exact hret _ _ _ _ _ _ dX6_restore_9 rfl rfl (⟨hG_M, hfr⟩) hP hS
def fX6_seed (p1 : Int32)  (now_M : Nat → Int32) : Option (Int32 × (Nat → Int32)) := if 0 ≤ p1 then (gin 1 191 (nm (now_M (Int32.toNatClampNeg 1)) (fun x3 => gin 1 191 (some (x3, upd now_M (Int32.toNatClampNeg 1) p1))))) else (some ((-1), now_M))
theorem in_X6_seed_X6 : ∀ w ∈ wsX60, w ∈ wsX6_seed := by decide +kernel
set_option maxHeartbeats 4000000 in
set_option maxRecDepth 100000 in
theorem ct_X6_seed {l : Launch} {D : va_G} {g : Nat → ClassId} {qa : Nat → Nat} {E0 : Nat → va_E} {p1 : Int32} {ltr_M : Int32} {pos_M : Int32} {num_M : Int32} {isk_M : Int32} {bm_M : Int32} {bch_M : Int32} {lan_M : Nat → Int32} {siz_M : Nat → Int32} {itm_M : Nat → Int64} {tap_M : Nat → Int32} {now_M : Nat → Int32} {tri_M : Nat → Int32} {rd_M : Nat → Int32} {kp_M : Nat → Int32} {bes_M : Nat → Int32} (hG_M : Mo g qa E0 64 ltr_M pos_M num_M isk_M bm_M bch_M lan_M siz_M itm_M tap_M now_M tri_M rd_M kp_M bes_M) {R : (Int32 × (Nat → Int32))} (hf : fX6_seed p1 now_M = some R) : MI l yX6_seed wsX6_seed 0 D g qa E0 [.ref (qa 64), .int p1] R.1 (fun E => Mo g qa E 64 ltr_M pos_M num_M isk_M bm_M bch_M lan_M siz_M itm_M tap_M R.2 tri_M rd_M kp_M bes_M ∧ ∀ j, (j < 64 ∨ 74 ≤ j) → E j = E0 j) := by
  refine MI.mk (by decide) rfl (Nat.le_of_ble_eq_true rfl) ?_
  intro p e s m args below meth c ls Q X hret hP hS hl
  have hl : lv_has ls 3 [(0, .ref (qa 64)), (1, .int p1)] := hl
  have hfr : ∀ j, (j < 64 ∨ 74 ≤ j) → E0 j = E0 j := fun _ _ => rfl
  rw [fX6_seed] at hf
  refine lv_iload_n X.1 X.2.1 dX6_seed_0 rfl (lv_at hl 1 rfl) ?_
  refine lv_if_ge (tgt := 6) X.1 X.2.1 dX6_seed_1 (by decide) (fun c1 => ?_) (fun c1 => ?_)
  · have hf := ifp hf c1
    refine lv_aload_n X.1 X.2.1 dX6_seed_6 rfl (lv_at hl 0 rfl) ?_
    refine x_get X hP hG_M.1 (by omega) rfl in_X6_seed_X6 7 (by decide) (by decide +kernel) rfl rfl dX6_seed_7 ?_
    refine lv_iconst (v := 1) X.1 X.2.1 dX6_seed_10 (by decide) ?_
    obtain ⟨hi2, hf⟩ := gin_of hf
    refine x_iald X hP hG_M.2.2.2.2.2.1 (by omega) hi2 dX6_seed_11 ?_
    obtain ⟨x3, ex3, hf⟩ := nm_of hf
    refine lv_top_as ex3 ?_
    refine lv_istore_n (lv' := [(2, .int x3), (0, .ref (qa 64)), (1, .int p1)]) X.1 X.2.1 dX6_seed_12 rfl hl (by decide) rfl (fun ls hl => ?_)
    refine lv_aload_n X.1 X.2.1 dX6_seed_13 rfl (lv_at hl 1 rfl) ?_
    refine x_get X hP hG_M.1 (by omega) rfl in_X6_seed_X6 7 (by decide) (by decide +kernel) rfl rfl dX6_seed_14 ?_
    refine lv_iconst (v := 1) X.1 X.2.1 dX6_seed_17 (by decide) ?_
    refine lv_iload_n X.1 X.2.1 dX6_seed_18 rfl (lv_at hl 2 rfl) ?_
    obtain ⟨hi4, hf⟩ := gin_of hf
    refine x_iast X hP hS hG_M.2.2.2.2.2.1 (by omega) hi4 dX6_seed_19 (fun E H locs h1 hk hP hS => ?_)
    have hG_M := Mo_set_5 hG_M h1 hk
    have hfr : ∀ j, (j < 64 ∨ 74 ≤ j) → E j = E0 j := fun j o0 => (hk j (by omega)).trans (hfr j o0)
    refine lv_iload_n X.1 X.2.1 dX6_seed_20 rfl (lv_at hl 0 rfl) ?_
    obtain rfl := Option.some.inj hf
    exact hret _ _ _ _ _ _ dX6_seed_21 rfl rfl (⟨hG_M, hfr⟩) hP hS
  · have hf := ifn hf c1
    refine lv_iconst (v := (-1)) X.1 X.2.1 dX6_seed_4 (by decide) ?_
    obtain rfl := Option.some.inj hf
    exact hret _ _ _ _ _ _ dX6_seed_5 rfl rfl (⟨hG_M, hfr⟩) hP hS
def bX6_sheet_48 (lan_M : Nat → Int32) (siz_M : Nat → Int32) (p1 : Int32) (p2 : Int32) (p3 : Int32) (K9 : ((Int32 × (Nat → Int64))) → Option (Int32 × (Nat → Int32) × (Nat → Int32) × (Nat → Int64))) : ((Int32 × (Nat → Int64))) → Option (Int32 × (Nat → Int32) × (Nat → Int32) × (Nat → Int64))
  | (v4_9, itm_M_9) => if 24 ≤ v4_9 then (some (p3, upd lan_M (Int32.toNatClampNeg p1) p2, upd siz_M (Int32.toNatClampNeg p1) p3, itm_M_9)) else (gin ((24 * p1) + v4_9) 96 (nm (v4_9 + 1) (fun x12 => K9 (x12, vp_updL itm_M_9 (Int32.toNatClampNeg ((24 * p1) + v4_9)) 0))))
def fX6_sheet (p1 : Int32) (p2 : Int32) (p3 : Int32)  (lan_M : Nat → Int32) (siz_M : Nat → Int32) (itm_M : Nat → Int64) : Option (Int32 × (Nat → Int32) × (Nat → Int32) × (Nat → Int64)) := (fX6_isSheet p1).bind (fun r1 => if r1 = 0 then (some ((-1), lan_M, siz_M, itm_M)) else ((fX6_in p2 0 3).bind (fun r3 => if r3 = 0 then (some ((-1), lan_M, siz_M, itm_M)) else (if p3 ≤ 24 then (if 0 ≤ p3 then (gin p1 4 (gin p1 4 (lp (bX6_sheet_48 lan_M siz_M p1 p2 p3) FU (0, itm_M)))) else (some ((-14), lan_M, siz_M, itm_M))) else (some ((-1), lan_M, siz_M, itm_M))))))
theorem in_X6_sheet_X6 : ∀ w ∈ wsX60, w ∈ wsX6_sheet := by decide +kernel
set_option maxHeartbeats 4000000 in
set_option maxRecDepth 100000 in
theorem ct_X6_sheet {l : Launch} {D : va_G} {g : Nat → ClassId} {qa : Nat → Nat} {E0 : Nat → va_E} {p1 : Int32} {p2 : Int32} {p3 : Int32} {ltr_M : Int32} {pos_M : Int32} {num_M : Int32} {isk_M : Int32} {bm_M : Int32} {bch_M : Int32} {lan_M : Nat → Int32} {siz_M : Nat → Int32} {itm_M : Nat → Int64} {tap_M : Nat → Int32} {now_M : Nat → Int32} {tri_M : Nat → Int32} {rd_M : Nat → Int32} {kp_M : Nat → Int32} {bes_M : Nat → Int32} (hG_M : Mo g qa E0 64 ltr_M pos_M num_M isk_M bm_M bch_M lan_M siz_M itm_M tap_M now_M tri_M rd_M kp_M bes_M) {R : (Int32 × (Nat → Int32) × (Nat → Int32) × (Nat → Int64))} (hf : fX6_sheet p1 p2 p3 lan_M siz_M itm_M = some R) : MI l yX6_sheet wsX6_sheet 2 D g qa E0 [.ref (qa 64), .int p1, .int p2, .int p3] R.1 (fun E => Mo g qa E 64 ltr_M pos_M num_M isk_M bm_M bch_M R.2.1 R.2.2.1 R.2.2.2 tap_M now_M tri_M rd_M kp_M bes_M ∧ ∀ j, (j < 64 ∨ 74 ≤ j) → E j = E0 j) := by
  refine MI.mk (by decide) rfl (Nat.le_of_ble_eq_true rfl) ?_
  intro p e s m args below meth c ls Q X hret hP hS hl
  have hl : lv_has ls 5 [(0, .ref (qa 64)), (1, .int p1), (2, .int p2), (3, .int p3)] := hl
  have hfr : ∀ j, (j < 64 ∨ 74 ≤ j) → E0 j = E0 j := fun _ _ => rfl
  rw [fX6_sheet] at hf
  refine lv_iload_n X.1 X.2.1 dX6_sheet_0 rfl (lv_at hl 1 rfl) ?_
  obtain ⟨r1, hr1, hf⟩ := bd_of hf
  refine x_rdSi X hP hS (index := 178) (n := 1) (As := [.int p1]) (ct_X6_isSheet  hr1) ggX6_sheet_X6_isSheet (by decide +kernel) (by decide +kernel) (by decide +kernel) rfl (by decide +kernel) ⟨by decide, by decide⟩ rfl hl.1 rfl (Nat.le_of_ble_eq_true rfl) dX6_sheet_1 (fun H locs hP hS => ?_)
  refine lv_if_eq (tgt := 22) X.1 X.2.1 dX6_sheet_4 (by decide) (fun c2 => ?_) (fun c2 => ?_)
  · have hf := ifp hf c2
    refine lv_iconst (v := (-1)) X.1 X.2.1 dX6_sheet_22 (by decide) ?_
    obtain rfl := Option.some.inj hf
    exact hret _ _ _ _ _ _ dX6_sheet_23 rfl rfl (⟨hG_M, hfr⟩) hP hS
  · have hf := ifn hf c2
    refine lv_iload_n X.1 X.2.1 dX6_sheet_7 rfl (lv_at hl 2 rfl) ?_
    refine lv_iconst (v := 0) X.1 X.2.1 dX6_sheet_8 (by decide) ?_
    refine lv_iconst (v := 3) X.1 X.2.1 dX6_sheet_9 (by decide) ?_
    obtain ⟨r3, hr3, hf⟩ := bd_of hf
    refine x_rdSi X hP hS (index := 38) (n := 3) (As := [.int p2, .int 0, .int 3]) (ct_X6_in  hr3) ggX6_sheet_X6_in (by decide +kernel) (by decide +kernel) (by decide +kernel) rfl (by decide +kernel) ⟨by decide, by decide⟩ rfl hl.1 rfl (Nat.le_of_ble_eq_true rfl) dX6_sheet_10 (fun H locs hP hS => ?_)
    refine lv_if_eq (tgt := 22) X.1 X.2.1 dX6_sheet_13 (by decide) (fun c4 => ?_) (fun c4 => ?_)
    · have hf := ifp hf c4
      refine lv_iconst (v := (-1)) X.1 X.2.1 dX6_sheet_22 (by decide) ?_
      obtain rfl := Option.some.inj hf
      exact hret _ _ _ _ _ _ dX6_sheet_23 rfl rfl (⟨hG_M, hfr⟩) hP hS
    · have hf := ifn hf c4
      refine lv_iload_n X.1 X.2.1 dX6_sheet_16 rfl (lv_at hl 3 rfl) ?_
      refine lv_bipush (v := 24) X.1 X.2.1 dX6_sheet_17 (by decide) ?_
      refine lv_icmp_le (tgt := 24) X.1 X.2.1 dX6_sheet_19 (by decide) (fun c5 => ?_) (fun c5 => ?_)
      · have hf := ifp hf c5
        refine lv_iload_n X.1 X.2.1 dX6_sheet_24 rfl (lv_at hl 3 rfl) ?_
        refine lv_if_ge (tgt := 31) X.1 X.2.1 dX6_sheet_25 (by decide) (fun c6 => ?_) (fun c6 => ?_)
        · have hf := ifp hf c6
          refine lv_aload_n X.1 X.2.1 dX6_sheet_31 rfl (lv_at hl 0 rfl) ?_
          refine x_get X hP hG_M.1 (by omega) rfl in_X6_sheet_X6 0 (by decide) (by decide +kernel) rfl rfl dX6_sheet_32 ?_
          refine lv_iload_n X.1 X.2.1 dX6_sheet_35 rfl (lv_at hl 1 rfl) ?_
          refine lv_iload_n X.1 X.2.1 dX6_sheet_36 rfl (lv_at hl 2 rfl) ?_
          obtain ⟨hi7, hf⟩ := gin_of hf
          refine x_iast X hP hS hG_M.2.1 (by omega) hi7 dX6_sheet_37 (fun E H locs h1 hk hP hS => ?_)
          have hG_M := Mo_set_1 hG_M h1 hk
          have hfr : ∀ j, (j < 64 ∨ 74 ≤ j) → E j = E0 j := fun j o0 => (hk j (by omega)).trans (hfr j o0)
          refine lv_aload_n X.1 X.2.1 dX6_sheet_38 rfl (lv_at hl 0 rfl) ?_
          refine x_get X hP hG_M.1 (by omega) rfl in_X6_sheet_X6 1 (by decide) (by decide +kernel) rfl rfl dX6_sheet_39 ?_
          refine lv_iload_n X.1 X.2.1 dX6_sheet_42 rfl (lv_at hl 1 rfl) ?_
          refine lv_iload_n X.1 X.2.1 dX6_sheet_43 rfl (lv_at hl 3 rfl) ?_
          obtain ⟨hi8, hf⟩ := gin_of hf
          refine x_iast X hP hS hG_M.2.2.1 (by omega) hi8 dX6_sheet_44 (fun E H locs h1 hk hP hS => ?_)
          have hG_M := Mo_set_2 hG_M h1 hk
          have hfr : ∀ j, (j < 64 ∨ 74 ≤ j) → E j = E0 j := fun j o0 => (hk j (by omega)).trans (hfr j o0)
          refine lv_iconst (v := 0) X.1 X.2.1 dX6_sheet_45 (by decide) ?_
          refine lv_istore (lv' := [(4, .int 0), (0, .ref (qa 64)), (1, .int p1), (2, .int p2), (3, .int p3)]) X.1 X.2.1 dX6_sheet_46 hl (by decide) rfl (fun ls hl => ?_)
          have lp9 : ∀ (n9 : Nat) (v4_9 : Int32) (itm_M_9 : Nat → Int64) (E : Nat → va_E) (H : Heap) (locs : List Loc) (ls : Array Slot), lp (bX6_sheet_48 lan_M siz_M p1 p2 p3) n9 (v4_9, itm_M_9) = some R → va_P D vwCl (WD qa E) H → va_S (gA qa s.heap.size) s.heap H locs → Mo g qa E 64 ltr_M pos_M num_M isk_M bm_M bch_M (upd lan_M (Int32.toNatClampNeg p1) p2) (upd siz_M (Int32.toNatClampNeg p1) p3) itm_M_9 tap_M now_M tri_M rd_M kp_M bes_M → (∀ j, (j < 64 ∨ 74 ≤ j) → E j = E0 j) → lv_has ls 5 [(0, .ref (qa 64)), (1, .int p1), (2, .int p2), (3, .int p3), (4, .int v4_9)] → W p l e (rmf 2) s m args below meth c H locs 0 0 Q (F0 m 48 ls []) := by
            intro n9
            induction n9 with
            | zero =>
              intro v4_9 itm_M_9 E H locs ls hf
              exact absurd hf (by intro h; cases h)
            | succ n9 ih9 =>
              intro v4_9 itm_M_9 E H locs ls hf hP hS hG_M hfr hl
              have hf : bX6_sheet_48 lan_M siz_M p1 p2 p3 (lp (bX6_sheet_48 lan_M siz_M p1 p2 p3) n9) (v4_9, itm_M_9) = some R := hf
              rw [bX6_sheet_48] at hf
              refine lv_iload X.1 X.2.1 dX6_sheet_48 (lv_at hl 4 rfl) ?_
              refine lv_bipush (v := 24) X.1 X.2.1 dX6_sheet_50 (by decide) ?_
              refine lv_icmp_ge (tgt := 74) X.1 X.2.1 dX6_sheet_52 (by decide) (fun c10 => ?_) (fun c10 => ?_)
              · have hf := ifp hf c10
                refine lv_iload_n X.1 X.2.1 dX6_sheet_74 rfl (lv_at hl 3 rfl) ?_
                obtain rfl := Option.some.inj hf
                exact hret _ _ _ _ _ _ dX6_sheet_75 rfl rfl (⟨hG_M, hfr⟩) hP hS
              · have hf := ifn hf c10
                refine lv_aload_n X.1 X.2.1 dX6_sheet_55 rfl (lv_at hl 0 rfl) ?_
                refine x_get X hP hG_M.1 (by omega) rfl in_X6_sheet_X6 2 (by decide) (by decide +kernel) rfl rfl dX6_sheet_56 ?_
                refine lv_bipush (v := 24) X.1 X.2.1 dX6_sheet_59 (by decide) ?_
                refine lv_iload_n X.1 X.2.1 dX6_sheet_61 rfl (lv_at hl 1 rfl) ?_
                refine lv_imul X.1 X.2.1 dX6_sheet_62 ?_
                refine lv_iload X.1 X.2.1 dX6_sheet_63 (lv_at hl 4 rfl) ?_
                refine lv_iadd X.1 X.2.1 dX6_sheet_65 ?_
                refine lv_lconst (v := 0) X.1 X.2.1 dX6_sheet_66 (by decide) ?_
                obtain ⟨hi11, hf⟩ := gin_of hf
                refine x_last X hP hS hG_M.2.2.2.1 (by omega) hi11 dX6_sheet_67 (fun E H locs h1 hk hP hS => ?_)
                have hG_M := Mo_set_3 hG_M h1 hk
                have hfr : ∀ j, (j < 64 ∨ 74 ≤ j) → E j = E0 j := fun j o0 => (hk j (by omega)).trans (hfr j o0)
                obtain ⟨x12, ex12, hf⟩ := nm_of hf
                refine lv_iinc (v := x12) (lv' := [(4, .int x12), (0, .ref (qa 64)), (1, .int p1), (2, .int p2), (3, .int p3)]) X.1 X.2.1 dX6_sheet_68 hl (k := 4) rfl (by rw [ex12]; rfl) (by decide) rfl (fun ls hl => ?_)
                refine lv_goto (tgt := 48) X.1 X.2.1 dX6_sheet_71 (by decide) ?_
                exact ih9 x12 (vp_updL itm_M_9 (Int32.toNatClampNeg ((24 * p1) + v4_9)) 0) _ _ _ _ hf hP hS hG_M hfr (lv_sub hl [1, 2, 3, 4, 0] rfl)
          exact lp9 FU 0 itm_M _ _ _ _ hf hP hS hG_M hfr (lv_sub hl [1, 2, 3, 4, 0] rfl)
        · have hf := ifn hf c6
          refine lv_bipush (v := (-14)) X.1 X.2.1 dX6_sheet_28 (by decide) ?_
          obtain rfl := Option.some.inj hf
          exact hret _ _ _ _ _ _ dX6_sheet_30 rfl rfl (⟨hG_M, hfr⟩) hP hS
      · have hf := ifn hf c5
        refine lv_iconst (v := (-1)) X.1 X.2.1 dX6_sheet_22 (by decide) ?_
        obtain rfl := Option.some.inj hf
        exact hret _ _ _ _ _ _ dX6_sheet_23 rfl rfl (⟨hG_M, hfr⟩) hP hS
def bX6_state_2 (ltr_M : Int32) (num_M : Int32) (tap_M : Nat → Int32) (now_M : Nat → Int32) (K1 : ((Int32 × (Nat → Int32))) → Option (Int32 × Int32 × Int32 × Int32 × (Nat → Int32) × (Nat → Int32))) : ((Int32 × (Nat → Int32))) → Option (Int32 × Int32 × Int32 × Int32 × (Nat → Int32) × (Nat → Int32))
  | (v1_1, rd_M_1) => if 191 ≤ v1_1 then (gin 1 191 (gin 1 191 ((fX6_isState ltr_M 0 num_M tap_M (upd rd_M_1 (Int32.toNatClampNeg 1) (now_M (Int32.toNatClampNeg 1)))).bind (fun r5 => nm (r5.1) (fun x6 => if x6 = 0 then (some ((-20) - r5.2.1, 0, r5.2.1, r5.2.2.1, now_M, r5.2.2.2)) else ((fX6_bring_d 0 0 191 191 r5.2.2.2 now_M).bind (fun r8 => gin 19 191 (some (r8 (Int32.toNatClampNeg 19), 0, r5.2.1, r5.2.2.1, r8, r5.2.2.2))))))))) else (gin v1_1 191 (nm (v1_1 + 1) (fun x11 => K1 (x11, upd rd_M_1 (Int32.toNatClampNeg v1_1) 0))))
def fX6_state   (ltr_M : Int32) (num_M : Int32) (tap_M : Nat → Int32) (now_M : Nat → Int32) (rd_M : Nat → Int32) : Option (Int32 × Int32 × Int32 × Int32 × (Nat → Int32) × (Nat → Int32)) := lp (bX6_state_2 ltr_M num_M tap_M now_M) FU (0, rd_M)
theorem in_X6_state_X6 : ∀ w ∈ wsX60, w ∈ wsX6_state := by decide +kernel
set_option maxHeartbeats 4000000 in
set_option maxRecDepth 100000 in
theorem ct_X6_state {l : Launch} {D : va_G} {g : Nat → ClassId} {qa : Nat → Nat} {E0 : Nat → va_E} {ltr_M : Int32} {pos_M : Int32} {num_M : Int32} {isk_M : Int32} {bm_M : Int32} {bch_M : Int32} {lan_M : Nat → Int32} {siz_M : Nat → Int32} {itm_M : Nat → Int64} {tap_M : Nat → Int32} {now_M : Nat → Int32} {tri_M : Nat → Int32} {rd_M : Nat → Int32} {kp_M : Nat → Int32} {bes_M : Nat → Int32} (hG_M : Mo g qa E0 64 ltr_M pos_M num_M isk_M bm_M bch_M lan_M siz_M itm_M tap_M now_M tri_M rd_M kp_M bes_M) {R : (Int32 × Int32 × Int32 × Int32 × (Nat → Int32) × (Nat → Int32))} (hf : fX6_state ltr_M num_M tap_M now_M rd_M = some R) : MI l yX6_state wsX6_state 5 D g qa E0 [.ref (qa 64)] R.1 (fun E => Mo g qa E 64 R.2.1 R.2.2.1 R.2.2.2.1 isk_M bm_M bch_M lan_M siz_M itm_M tap_M R.2.2.2.2.1 tri_M R.2.2.2.2.2 kp_M bes_M ∧ ∀ j, (j < 64 ∨ 74 ≤ j) → E j = E0 j) := by
  refine MI.mk (by decide) rfl (Nat.le_of_ble_eq_true rfl) ?_
  intro p e s m args below meth c ls Q X hret hP hS hl
  have hl : lv_has ls 2 [(0, .ref (qa 64))] := hl
  have hfr : ∀ j, (j < 64 ∨ 74 ≤ j) → E0 j = E0 j := fun _ _ => rfl
  rw [fX6_state] at hf
  refine lv_iconst (v := 0) X.1 X.2.1 dX6_state_0 (by decide) ?_
  refine lv_istore_n (lv' := [(1, .int 0), (0, .ref (qa 64))]) X.1 X.2.1 dX6_state_1 rfl hl (by decide) rfl (fun ls hl => ?_)
  have lp1 : ∀ (n1 : Nat) (v1_1 : Int32) (rd_M_1 : Nat → Int32) (E : Nat → va_E) (H : Heap) (locs : List Loc) (ls : Array Slot), lp (bX6_state_2 ltr_M num_M tap_M now_M) n1 (v1_1, rd_M_1) = some R → va_P D vwCl (WD qa E) H → va_S (gA qa s.heap.size) s.heap H locs → Mo g qa E 64 ltr_M pos_M num_M isk_M bm_M bch_M lan_M siz_M itm_M tap_M now_M tri_M rd_M_1 kp_M bes_M → (∀ j, (j < 64 ∨ 74 ≤ j) → E j = E0 j) → lv_has ls 2 [(0, .ref (qa 64)), (1, .int v1_1)] → W p l e (rmf 5) s m args below meth c H locs 0 0 Q (F0 m 2 ls []) := by
    intro n1
    induction n1 with
    | zero =>
      intro v1_1 rd_M_1 E H locs ls hf
      exact absurd hf (by intro h; cases h)
    | succ n1 ih1 =>
      intro v1_1 rd_M_1 E H locs ls hf hP hS hG_M hfr hl
      have hf : bX6_state_2 ltr_M num_M tap_M now_M (lp (bX6_state_2 ltr_M num_M tap_M now_M) n1) (v1_1, rd_M_1) = some R := hf
      rw [bX6_state_2] at hf
      refine lv_iload_n X.1 X.2.1 dX6_state_2 rfl (lv_at hl 1 rfl) ?_
      refine lv_sipush (v := 191) X.1 X.2.1 dX6_state_3 (by decide) ?_
      refine lv_icmp_ge (tgt := 22) X.1 X.2.1 dX6_state_6 (by decide) (fun c2 => ?_) (fun c2 => ?_)
      · have hf := ifp hf c2
        refine lv_aload_n X.1 X.2.1 dX6_state_22 rfl (lv_at hl 0 rfl) ?_
        refine x_get X hP hG_M.1 (by omega) rfl in_X6_state_X6 9 (by decide) (by decide +kernel) rfl rfl dX6_state_23 ?_
        refine lv_iconst (v := 1) X.1 X.2.1 dX6_state_26 (by decide) ?_
        refine lv_aload_n X.1 X.2.1 dX6_state_27 rfl (lv_at hl 0 rfl) ?_
        refine x_get X hP hG_M.1 (by omega) rfl in_X6_state_X6 7 (by decide) (by decide +kernel) rfl rfl dX6_state_28 ?_
        refine lv_iconst (v := 1) X.1 X.2.1 dX6_state_31 (by decide) ?_
        obtain ⟨hi3, hf⟩ := gin_of hf
        refine x_iald X hP hG_M.2.2.2.2.2.1 (by omega) hi3 dX6_state_32 ?_
        obtain ⟨hi4, hf⟩ := gin_of hf
        refine x_iast X hP hS hG_M.2.2.2.2.2.2.2.1 (by omega) hi4 dX6_state_33 (fun E H locs h1 hk hP hS => ?_)
        have hG_M := Mo_set_7 hG_M h1 hk
        have hfr : ∀ j, (j < 64 ∨ 74 ≤ j) → E j = E0 j := fun j o0 => (hk j (by omega)).trans (hfr j o0)
        refine lv_aload_n X.1 X.2.1 dX6_state_34 rfl (lv_at hl 0 rfl) ?_
        refine lv_iconst (v := 0) X.1 X.2.1 dX6_state_35 (by decide) ?_
        refine x_put (ty := .int) X hP hS hG_M.1 (by omega) rfl in_X6_state_X6 tyX6 tyX6_ok nmX6 5 (by decide) (by decide +kernel) rfl rfl (by decide +kernel) rfl rfl (Nat.le_of_ble_eq_true rfl) dX6_state_36 (fun E H locs h1 hk hP hS => ?_)
        have hG_M := Mo_set_0 hG_M h1 hk
        have hfr : ∀ j, (j < 64 ∨ 74 ≤ j) → E j = E0 j := fun j o0 => (hk j (by omega)).trans (hfr j o0)
        refine lv_aload_n X.1 X.2.1 dX6_state_39 rfl (lv_at hl 0 rfl) ?_
        obtain ⟨r5, hr5, hf⟩ := bd_of hf
        refine x_callVi X hP hS hG_M.1 (by omega) rfl (n := 0) (As := []) (ct_X6_isState hG_M hr5) gX6_state_X6_isState rfl (by decide +kernel) ⟨by decide, by decide⟩ rfl hl.1 rfl (Nat.le_of_ble_eq_true rfl) dX6_state_40 (fun E H locs hp hP hS => ?_)
        obtain ⟨hW_M, hk⟩ := hp
        have hG_M := hW_M
        have hfr : ∀ j, (j < 64 ∨ 74 ≤ j) → E j = E0 j := fun j o0 => (hk j (by omega)).trans (hfr j o0)
        obtain ⟨x6, ex6, hf⟩ := nm_of hf
        refine lv_top_as ex6 ?_
        refine lv_istore_n (lv' := [(1, .int x6), (0, .ref (qa 64))]) X.1 X.2.1 dX6_state_43 rfl hl (by decide) rfl (fun ls hl => ?_)
        refine lv_aload_n X.1 X.2.1 dX6_state_44 rfl (lv_at hl 1 rfl) ?_
        refine lv_iconst (v := 0) X.1 X.2.1 dX6_state_45 (by decide) ?_
        refine x_put (ty := .int) X hP hS hG_M.1 (by omega) rfl in_X6_state_X6 tyX6 tyX6_ok nmX6 3 (by decide) (by decide +kernel) rfl rfl (by decide +kernel) rfl rfl (Nat.le_of_ble_eq_true rfl) dX6_state_46 (fun E H locs h1 hk hP hS => ?_)
        have hG_M := Mo_set_0 hG_M h1 hk
        have hfr : ∀ j, (j < 64 ∨ 74 ≤ j) → E j = E0 j := fun j o0 => (hk j (by omega)).trans (hfr j o0)
        refine lv_iload_n X.1 X.2.1 dX6_state_49 rfl (lv_at hl 0 rfl) ?_
        refine lv_if_ne (tgt := 61) X.1 X.2.1 dX6_state_50 (by decide) (fun c7 => ?_) (fun c7 => ?_)
        · have hf := ifn hf c7
          refine lv_aload_n X.1 X.2.1 dX6_state_61 rfl (lv_at hl 1 rfl) ?_
          refine x_get X hP hG_M.1 (by omega) rfl in_X6_state_X6 9 (by decide) (by decide +kernel) rfl rfl dX6_state_62 ?_
          refine lv_iconst (v := 0) X.1 X.2.1 dX6_state_65 (by decide) ?_
          refine lv_aload_n X.1 X.2.1 dX6_state_66 rfl (lv_at hl 1 rfl) ?_
          refine x_get X hP hG_M.1 (by omega) rfl in_X6_state_X6 7 (by decide) (by decide +kernel) rfl rfl dX6_state_67 ?_
          refine lv_iconst (v := 0) X.1 X.2.1 dX6_state_70 (by decide) ?_
          refine lv_sipush (v := 191) X.1 X.2.1 dX6_state_71 (by decide) ?_
          obtain ⟨r8, hr8, hf⟩ := bd_of hf
          refine x_callSv X hP hS (index := 114) (n := 5) (As := [.ref (qa (64 + 7)), .int 0, .ref (qa (64 + 5)), .int 0, .int 191]) (ct_X6_bring_d (by omega) hG_M.2.2.2.2.2.2.2.1 (by omega) hG_M.2.2.2.2.2.1 (by omega) hr8) ggX6_state_X6_bring (by decide +kernel) (by decide +kernel) (by decide +kernel) rfl (by decide +kernel) ⟨by decide, by decide⟩ rfl hl.1 rfl (Nat.le_of_ble_eq_true rfl) dX6_state_74 (fun E H locs hp hP hS => ?_)
          obtain ⟨hW_d, hk⟩ := hp
          have hG_M := Mo_set_5 hG_M hW_d hk
          have hfr : ∀ j, (j < 64 ∨ 74 ≤ j) → E j = E0 j := fun j o0 => (hk j (by omega)).trans (hfr j o0)
          refine lv_aload_n X.1 X.2.1 dX6_state_77 rfl (lv_at hl 1 rfl) ?_
          refine x_get X hP hG_M.1 (by omega) rfl in_X6_state_X6 7 (by decide) (by decide +kernel) rfl rfl dX6_state_78 ?_
          refine lv_bipush (v := 19) X.1 X.2.1 dX6_state_81 (by decide) ?_
          obtain ⟨hi9, hf⟩ := gin_of hf
          refine x_iald X hP hG_M.2.2.2.2.2.1 (by omega) hi9 dX6_state_83 ?_
          obtain rfl := Option.some.inj hf
          exact hret _ _ _ _ _ _ dX6_state_84 rfl rfl (⟨hG_M, hfr⟩) hP hS
        · have hf := ifp hf c7
          refine lv_bipush (v := (-20)) X.1 X.2.1 dX6_state_53 (by decide) ?_
          refine lv_aload_n X.1 X.2.1 dX6_state_55 rfl (lv_at hl 1 rfl) ?_
          refine x_get X hP hG_M.1 (by omega) rfl in_X6_state_X6 5 (by decide) (by decide +kernel) rfl rfl dX6_state_56 ?_
          refine lv_isub X.1 X.2.1 dX6_state_59 ?_
          obtain rfl := Option.some.inj hf
          exact hret _ _ _ _ _ _ dX6_state_60 rfl rfl (⟨hG_M, hfr⟩) hP hS
      · have hf := ifn hf c2
        refine lv_aload_n X.1 X.2.1 dX6_state_9 rfl (lv_at hl 0 rfl) ?_
        refine x_get X hP hG_M.1 (by omega) rfl in_X6_state_X6 9 (by decide) (by decide +kernel) rfl rfl dX6_state_10 ?_
        refine lv_iload_n X.1 X.2.1 dX6_state_13 rfl (lv_at hl 1 rfl) ?_
        refine lv_iconst (v := 0) X.1 X.2.1 dX6_state_14 (by decide) ?_
        obtain ⟨hi10, hf⟩ := gin_of hf
        refine x_iast X hP hS hG_M.2.2.2.2.2.2.2.1 (by omega) hi10 dX6_state_15 (fun E H locs h1 hk hP hS => ?_)
        have hG_M := Mo_set_7 hG_M h1 hk
        have hfr : ∀ j, (j < 64 ∨ 74 ≤ j) → E j = E0 j := fun j o0 => (hk j (by omega)).trans (hfr j o0)
        obtain ⟨x11, ex11, hf⟩ := nm_of hf
        refine lv_iinc (v := x11) (lv' := [(1, .int x11), (0, .ref (qa 64))]) X.1 X.2.1 dX6_state_16 hl (k := 1) rfl (by rw [ex11]; rfl) (by decide) rfl (fun ls hl => ?_)
        refine lv_goto (tgt := 2) X.1 X.2.1 dX6_state_19 (by decide) ?_
        exact ih1 x11 (upd rd_M_1 (Int32.toNatClampNeg v1_1) 0) _ _ _ _ hf hP hS hG_M hfr (lv_sub hl [1, 0] rfl)
  exact lp1 FU 0 rd_M _ _ _ _ hf hP hS hG_M hfr (lv_sub hl [1, 0] rfl)
def fX6_then (p1 : Int32)  (now_M : Nat → Int32) (tri_M : Nat → Int32) : Option (Int32 × (Nat → Int32)) := (fX6_in p1 0 60).bind (fun r1 => if r1 = 0 then (some ((-1), tri_M)) else ((fX6_begin now_M tri_M).bind (fun r3 => (fX6_goOn p1 r3).bind (fun r4 => (fX6_bentOnes r4).bind (fun r5 => some (r5, r4))))))
theorem in_X6_then_X6 : ∀ w ∈ wsX60, w ∈ wsX6_then := by decide +kernel
set_option maxHeartbeats 4000000 in
set_option maxRecDepth 100000 in
theorem ct_X6_then {l : Launch} {D : va_G} {g : Nat → ClassId} {qa : Nat → Nat} {E0 : Nat → va_E} {p1 : Int32} {ltr_M : Int32} {pos_M : Int32} {num_M : Int32} {isk_M : Int32} {bm_M : Int32} {bch_M : Int32} {lan_M : Nat → Int32} {siz_M : Nat → Int32} {itm_M : Nat → Int64} {tap_M : Nat → Int32} {now_M : Nat → Int32} {tri_M : Nat → Int32} {rd_M : Nat → Int32} {kp_M : Nat → Int32} {bes_M : Nat → Int32} (hG_M : Mo g qa E0 64 ltr_M pos_M num_M isk_M bm_M bch_M lan_M siz_M itm_M tap_M now_M tri_M rd_M kp_M bes_M) {R : (Int32 × (Nat → Int32))} (hf : fX6_then p1 now_M tri_M = some R) : MI l yX6_then wsX6_then 7 D g qa E0 [.ref (qa 64), .int p1] R.1 (fun E => Mo g qa E 64 ltr_M pos_M num_M isk_M bm_M bch_M lan_M siz_M itm_M tap_M now_M R.2 rd_M kp_M bes_M ∧ ∀ j, (j < 64 ∨ 74 ≤ j) → E j = E0 j) := by
  refine MI.mk (by decide) rfl (Nat.le_of_ble_eq_true rfl) ?_
  intro p e s m args below meth c ls Q X hret hP hS hl
  have hl : lv_has ls 2 [(0, .ref (qa 64)), (1, .int p1)] := hl
  have hfr : ∀ j, (j < 64 ∨ 74 ≤ j) → E0 j = E0 j := fun _ _ => rfl
  rw [fX6_then] at hf
  refine lv_iload_n X.1 X.2.1 dX6_then_0 rfl (lv_at hl 1 rfl) ?_
  refine lv_iconst (v := 0) X.1 X.2.1 dX6_then_1 (by decide) ?_
  refine lv_bipush (v := 60) X.1 X.2.1 dX6_then_2 (by decide) ?_
  obtain ⟨r1, hr1, hf⟩ := bd_of hf
  refine x_rdSi X hP hS (index := 38) (n := 3) (As := [.int p1, .int 0, .int 60]) (ct_X6_in  hr1) ggX6_then_X6_in (by decide +kernel) (by decide +kernel) (by decide +kernel) rfl (by decide +kernel) ⟨by decide, by decide⟩ rfl hl.1 rfl (Nat.le_of_ble_eq_true rfl) dX6_then_4 (fun H locs hP hS => ?_)
  refine lv_if_ne (tgt := 12) X.1 X.2.1 dX6_then_7 (by decide) (fun c2 => ?_) (fun c2 => ?_)
  · have hf := ifn hf c2
    refine lv_aload_n X.1 X.2.1 dX6_then_12 rfl (lv_at hl 0 rfl) ?_
    obtain ⟨r3, hr3, hf⟩ := bd_of hf
    refine x_callVv X hP hS hG_M.1 (by omega) rfl (n := 0) (As := []) (ct_X6_begin hG_M hr3) gX6_then_X6_begin rfl (by decide +kernel) ⟨by decide, by decide⟩ rfl hl.1 rfl (Nat.le_of_ble_eq_true rfl) dX6_then_13 (fun E H locs hp hP hS => ?_)
    obtain ⟨hW_M, hk⟩ := hp
    have hG_M := hW_M
    have hfr : ∀ j, (j < 64 ∨ 74 ≤ j) → E j = E0 j := fun j o0 => (hk j (by omega)).trans (hfr j o0)
    refine lv_aload_n X.1 X.2.1 dX6_then_16 rfl (lv_at hl 0 rfl) ?_
    refine lv_iload_n X.1 X.2.1 dX6_then_17 rfl (lv_at hl 1 rfl) ?_
    obtain ⟨r4, hr4, hf⟩ := bd_of hf
    refine x_callVv X hP hS hG_M.1 (by omega) rfl (n := 1) (As := [.int p1]) (ct_X6_goOn hG_M hr4) gX6_then_X6_goOn rfl (by decide +kernel) ⟨by decide, by decide⟩ rfl hl.1 rfl (Nat.le_of_ble_eq_true rfl) dX6_then_18 (fun E H locs hp hP hS => ?_)
    obtain ⟨hW_M, hk⟩ := hp
    have hG_M := hW_M
    have hfr : ∀ j, (j < 64 ∨ 74 ≤ j) → E j = E0 j := fun j o0 => (hk j (by omega)).trans (hfr j o0)
    refine lv_aload_n X.1 X.2.1 dX6_then_21 rfl (lv_at hl 0 rfl) ?_
    refine x_get X hP hG_M.1 (by omega) rfl in_X6_then_X6 8 (by decide) (by decide +kernel) rfl rfl dX6_then_22 ?_
    obtain ⟨r5, hr5, hf⟩ := bd_of hf
    refine x_rdSi X hP hS (index := 118) (n := 1) (As := [.ref (qa (64 + 6))]) (ct_X6_bentOnes (by omega) hG_M.2.2.2.2.2.2.1 hr5) ggX6_then_X6_bentOnes (by decide +kernel) (by decide +kernel) (by decide +kernel) rfl (by decide +kernel) ⟨by decide, by decide⟩ rfl hl.1 rfl (Nat.le_of_ble_eq_true rfl) dX6_then_25 (fun H locs hP hS => ?_)
    obtain rfl := Option.some.inj hf
    exact hret _ _ _ _ _ _ dX6_then_28 rfl rfl (⟨hG_M, hfr⟩) hP hS
  · have hf := ifp hf c2
    refine lv_iconst (v := (-1)) X.1 X.2.1 dX6_then_10 (by decide) ?_
    obtain rfl := Option.some.inj hf
    exact hret _ _ _ _ _ _ dX6_then_11 rfl rfl (⟨hG_M, hfr⟩) hP hS
def fX6_type (p1 : Int32)  (ltr_M : Int32) (tap_M : Nat → Int32) : Option (Int32 × Int32 × (Nat → Int32)) := (fX6_in p1 32 126).bind (fun r1 => if r1 = 0 then (some ((-1), ltr_M, tap_M)) else (if ltr_M = 90 then (some ((-3), ltr_M, tap_M)) else (gin ltr_M 90 (some (ltr_M + 1, ltr_M + 1, upd tap_M (Int32.toNatClampNeg ltr_M) p1)))))
theorem in_X6_type_X6 : ∀ w ∈ wsX60, w ∈ wsX6_type := by decide +kernel
set_option maxHeartbeats 4000000 in
set_option maxRecDepth 100000 in
theorem ct_X6_type {l : Launch} {D : va_G} {g : Nat → ClassId} {qa : Nat → Nat} {E0 : Nat → va_E} {p1 : Int32} {ltr_M : Int32} {pos_M : Int32} {num_M : Int32} {isk_M : Int32} {bm_M : Int32} {bch_M : Int32} {lan_M : Nat → Int32} {siz_M : Nat → Int32} {itm_M : Nat → Int64} {tap_M : Nat → Int32} {now_M : Nat → Int32} {tri_M : Nat → Int32} {rd_M : Nat → Int32} {kp_M : Nat → Int32} {bes_M : Nat → Int32} (hG_M : Mo g qa E0 64 ltr_M pos_M num_M isk_M bm_M bch_M lan_M siz_M itm_M tap_M now_M tri_M rd_M kp_M bes_M) {R : (Int32 × Int32 × (Nat → Int32))} (hf : fX6_type p1 ltr_M tap_M = some R) : MI l yX6_type wsX6_type 1 D g qa E0 [.ref (qa 64), .int p1] R.1 (fun E => Mo g qa E 64 R.2.1 pos_M num_M isk_M bm_M bch_M lan_M siz_M itm_M R.2.2 now_M tri_M rd_M kp_M bes_M ∧ ∀ j, (j < 64 ∨ 74 ≤ j) → E j = E0 j) := by
  refine MI.mk (by decide) rfl (Nat.le_of_ble_eq_true rfl) ?_
  intro p e s m args below meth c ls Q X hret hP hS hl
  have hl : lv_has ls 2 [(0, .ref (qa 64)), (1, .int p1)] := hl
  have hfr : ∀ j, (j < 64 ∨ 74 ≤ j) → E0 j = E0 j := fun _ _ => rfl
  rw [fX6_type] at hf
  refine lv_iload_n X.1 X.2.1 dX6_type_0 rfl (lv_at hl 1 rfl) ?_
  refine lv_bipush (v := 32) X.1 X.2.1 dX6_type_1 (by decide) ?_
  refine lv_bipush (v := 126) X.1 X.2.1 dX6_type_3 (by decide) ?_
  obtain ⟨r1, hr1, hf⟩ := bd_of hf
  refine x_rdSi X hP hS (index := 38) (n := 3) (As := [.int p1, .int 32, .int 126]) (ct_X6_in  hr1) ggX6_type_X6_in (by decide +kernel) (by decide +kernel) (by decide +kernel) rfl (by decide +kernel) ⟨by decide, by decide⟩ rfl hl.1 rfl (Nat.le_of_ble_eq_true rfl) dX6_type_5 (fun H locs hP hS => ?_)
  refine lv_if_ne (tgt := 13) X.1 X.2.1 dX6_type_8 (by decide) (fun c2 => ?_) (fun c2 => ?_)
  · have hf := ifn hf c2
    refine lv_aload_n X.1 X.2.1 dX6_type_13 rfl (lv_at hl 0 rfl) ?_
    refine x_get X hP hG_M.1 (by omega) rfl in_X6_type_X6 3 (by decide) (by decide +kernel) rfl rfl dX6_type_14 ?_
    refine lv_bipush (v := 90) X.1 X.2.1 dX6_type_17 (by decide) ?_
    refine lv_icmp_ne (tgt := 25) X.1 X.2.1 dX6_type_19 (by decide) (fun c3 => ?_) (fun c3 => ?_)
    · have hf := ifn hf c3
      refine lv_aload_n X.1 X.2.1 dX6_type_25 rfl (lv_at hl 0 rfl) ?_
      refine x_get X hP hG_M.1 (by omega) rfl in_X6_type_X6 4 (by decide) (by decide +kernel) rfl rfl dX6_type_26 ?_
      refine lv_aload_n X.1 X.2.1 dX6_type_29 rfl (lv_at hl 0 rfl) ?_
      refine x_get X hP hG_M.1 (by omega) rfl in_X6_type_X6 3 (by decide) (by decide +kernel) rfl rfl dX6_type_30 ?_
      refine lv_iload_n X.1 X.2.1 dX6_type_33 rfl (lv_at hl 1 rfl) ?_
      obtain ⟨hi4, hf⟩ := gin_of hf
      refine x_iast X hP hS hG_M.2.2.2.2.1 (by omega) hi4 dX6_type_34 (fun E H locs h1 hk hP hS => ?_)
      have hG_M := Mo_set_4 hG_M h1 hk
      have hfr : ∀ j, (j < 64 ∨ 74 ≤ j) → E j = E0 j := fun j o0 => (hk j (by omega)).trans (hfr j o0)
      refine lv_aload_n X.1 X.2.1 dX6_type_35 rfl (lv_at hl 0 rfl) ?_
      refine lv_dup X.1 X.2.1 dX6_type_36 rfl ?_
      refine x_get X hP hG_M.1 (by omega) rfl in_X6_type_X6 3 (by decide) (by decide +kernel) rfl rfl dX6_type_37 ?_
      refine lv_iconst (v := 1) X.1 X.2.1 dX6_type_40 (by decide) ?_
      refine lv_iadd X.1 X.2.1 dX6_type_41 ?_
      refine x_put (ty := .int) X hP hS hG_M.1 (by omega) rfl in_X6_type_X6 tyX6 tyX6_ok nmX6 3 (by decide) (by decide +kernel) rfl rfl (by decide +kernel) rfl rfl (Nat.le_of_ble_eq_true rfl) dX6_type_42 (fun E H locs h1 hk hP hS => ?_)
      have hG_M := Mo_set_0 hG_M h1 hk
      have hfr : ∀ j, (j < 64 ∨ 74 ≤ j) → E j = E0 j := fun j o0 => (hk j (by omega)).trans (hfr j o0)
      refine lv_aload_n X.1 X.2.1 dX6_type_45 rfl (lv_at hl 0 rfl) ?_
      refine x_get X hP hG_M.1 (by omega) rfl in_X6_type_X6 3 (by decide) (by decide +kernel) rfl rfl dX6_type_46 ?_
      obtain rfl := Option.some.inj hf
      exact hret _ _ _ _ _ _ dX6_type_49 rfl rfl (⟨hG_M, hfr⟩) hP hS
    · have hf := ifp hf c3
      refine lv_bipush (v := (-3)) X.1 X.2.1 dX6_type_22 (by decide) ?_
      obtain rfl := Option.some.inj hf
      exact hret _ _ _ _ _ _ dX6_type_24 rfl rfl (⟨hG_M, hfr⟩) hP hS
  · have hf := ifp hf c2
    refine lv_iconst (v := (-1)) X.1 X.2.1 dX6_type_11 (by decide) ?_
    obtain rfl := Option.some.inj hf
    exact hret _ _ _ _ _ _ dX6_type_12 rfl rfl (⟨hG_M, hfr⟩) hP hS
def fX6_undo   (now_M : Nat → Int32) : Option (Int32 × (Nat → Int32)) := gin 38 191 (if (now_M (Int32.toNatClampNeg 38)) = 0 then (some ((-4), now_M)) else (gin 38 191 (gin 38 191 (gin 38 191 ((fX6_bring_s (39 + (19 * ((upd now_M (Int32.toNatClampNeg 38) ((now_M (Int32.toNatClampNeg 38)) - 1)) (Int32.toNatClampNeg 38)))) 0 19 (upd now_M (Int32.toNatClampNeg 38) ((now_M (Int32.toNatClampNeg 38)) - 1))).bind (fun r6 => gin 38 191 (some (r6 (Int32.toNatClampNeg 38), r6))))))))
theorem in_X6_undo_X6 : ∀ w ∈ wsX60, w ∈ wsX6_undo := by decide +kernel
set_option maxHeartbeats 4000000 in
set_option maxRecDepth 100000 in
theorem ct_X6_undo {l : Launch} {D : va_G} {g : Nat → ClassId} {qa : Nat → Nat} {E0 : Nat → va_E} {ltr_M : Int32} {pos_M : Int32} {num_M : Int32} {isk_M : Int32} {bm_M : Int32} {bch_M : Int32} {lan_M : Nat → Int32} {siz_M : Nat → Int32} {itm_M : Nat → Int64} {tap_M : Nat → Int32} {now_M : Nat → Int32} {tri_M : Nat → Int32} {rd_M : Nat → Int32} {kp_M : Nat → Int32} {bes_M : Nat → Int32} (hG_M : Mo g qa E0 64 ltr_M pos_M num_M isk_M bm_M bch_M lan_M siz_M itm_M tap_M now_M tri_M rd_M kp_M bes_M) {R : (Int32 × (Nat → Int32))} (hf : fX6_undo now_M = some R) : MI l yX6_undo wsX6_undo 1 D g qa E0 [.ref (qa 64)] R.1 (fun E => Mo g qa E 64 ltr_M pos_M num_M isk_M bm_M bch_M lan_M siz_M itm_M tap_M R.2 tri_M rd_M kp_M bes_M ∧ ∀ j, (j < 64 ∨ 74 ≤ j) → E j = E0 j) := by
  refine MI.mk (by decide) rfl (Nat.le_of_ble_eq_true rfl) ?_
  intro p e s m args below meth c ls Q X hret hP hS hl
  have hl : lv_has ls 1 [(0, .ref (qa 64))] := hl
  have hfr : ∀ j, (j < 64 ∨ 74 ≤ j) → E0 j = E0 j := fun _ _ => rfl
  rw [fX6_undo] at hf
  refine lv_aload_n X.1 X.2.1 dX6_undo_0 rfl (lv_at hl 0 rfl) ?_
  refine x_get X hP hG_M.1 (by omega) rfl in_X6_undo_X6 7 (by decide) (by decide +kernel) rfl rfl dX6_undo_1 ?_
  refine lv_bipush (v := 38) X.1 X.2.1 dX6_undo_4 (by decide) ?_
  obtain ⟨hi1, hf⟩ := gin_of hf
  refine x_iald X hP hG_M.2.2.2.2.2.1 (by omega) hi1 dX6_undo_6 ?_
  refine lv_if_ne (tgt := 13) X.1 X.2.1 dX6_undo_7 (by decide) (fun c2 => ?_) (fun c2 => ?_)
  · have hf := ifn hf c2
    refine lv_aload_n X.1 X.2.1 dX6_undo_13 rfl (lv_at hl 0 rfl) ?_
    refine x_get X hP hG_M.1 (by omega) rfl in_X6_undo_X6 7 (by decide) (by decide +kernel) rfl rfl dX6_undo_14 ?_
    refine lv_bipush (v := 38) X.1 X.2.1 dX6_undo_17 (by decide) ?_
    refine lv_dup2_11 X.1 X.2.1 dX6_undo_19 rfl rfl ?_
    obtain ⟨hi3, hf⟩ := gin_of hf
    refine x_iald X hP hG_M.2.2.2.2.2.1 (by omega) hi3 dX6_undo_20 ?_
    refine lv_iconst (v := 1) X.1 X.2.1 dX6_undo_21 (by decide) ?_
    refine lv_isub X.1 X.2.1 dX6_undo_22 ?_
    obtain ⟨hi4, hf⟩ := gin_of hf
    refine x_iast X hP hS hG_M.2.2.2.2.2.1 (by omega) hi4 dX6_undo_23 (fun E H locs h1 hk hP hS => ?_)
    have hG_M := Mo_set_5 hG_M h1 hk
    have hfr : ∀ j, (j < 64 ∨ 74 ≤ j) → E j = E0 j := fun j o0 => (hk j (by omega)).trans (hfr j o0)
    refine lv_aload_n X.1 X.2.1 dX6_undo_24 rfl (lv_at hl 0 rfl) ?_
    refine x_get X hP hG_M.1 (by omega) rfl in_X6_undo_X6 7 (by decide) (by decide +kernel) rfl rfl dX6_undo_25 ?_
    refine lv_bipush (v := 39) X.1 X.2.1 dX6_undo_28 (by decide) ?_
    refine lv_bipush (v := 19) X.1 X.2.1 dX6_undo_30 (by decide) ?_
    refine lv_aload_n X.1 X.2.1 dX6_undo_32 rfl (lv_at hl 0 rfl) ?_
    refine x_get X hP hG_M.1 (by omega) rfl in_X6_undo_X6 7 (by decide) (by decide +kernel) rfl rfl dX6_undo_33 ?_
    refine lv_bipush (v := 38) X.1 X.2.1 dX6_undo_36 (by decide) ?_
    obtain ⟨hi5, hf⟩ := gin_of hf
    refine x_iald X hP hG_M.2.2.2.2.2.1 (by omega) hi5 dX6_undo_38 ?_
    refine lv_imul X.1 X.2.1 dX6_undo_39 ?_
    refine lv_iadd X.1 X.2.1 dX6_undo_40 ?_
    refine lv_aload_n X.1 X.2.1 dX6_undo_41 rfl (lv_at hl 0 rfl) ?_
    refine x_get X hP hG_M.1 (by omega) rfl in_X6_undo_X6 7 (by decide) (by decide +kernel) rfl rfl dX6_undo_42 ?_
    refine lv_iconst (v := 0) X.1 X.2.1 dX6_undo_45 (by decide) ?_
    refine lv_bipush (v := 19) X.1 X.2.1 dX6_undo_46 (by decide) ?_
    obtain ⟨r6, hr6, hf⟩ := bd_of hf
    refine x_callSv X hP hS (index := 114) (n := 5) (As := [.ref (qa (64 + 5)), .int (39 + (19 * ((upd now_M (Int32.toNatClampNeg 38) ((now_M (Int32.toNatClampNeg 38)) - 1)) (Int32.toNatClampNeg 38)))), .ref (qa (64 + 5)), .int 0, .int 19]) (ct_X6_bring_s (by omega) hG_M.2.2.2.2.2.1 hr6) ggX6_undo_X6_bring (by decide +kernel) (by decide +kernel) (by decide +kernel) rfl (by decide +kernel) ⟨by decide, by decide⟩ rfl hl.1 rfl (Nat.le_of_ble_eq_true rfl) dX6_undo_48 (fun E H locs hp hP hS => ?_)
    obtain ⟨hW_s, hk⟩ := hp
    have hG_M := Mo_set_5 hG_M hW_s hk
    have hfr : ∀ j, (j < 64 ∨ 74 ≤ j) → E j = E0 j := fun j o0 => (hk j (by omega)).trans (hfr j o0)
    refine lv_aload_n X.1 X.2.1 dX6_undo_51 rfl (lv_at hl 0 rfl) ?_
    refine x_get X hP hG_M.1 (by omega) rfl in_X6_undo_X6 7 (by decide) (by decide +kernel) rfl rfl dX6_undo_52 ?_
    refine lv_bipush (v := 38) X.1 X.2.1 dX6_undo_55 (by decide) ?_
    obtain ⟨hi7, hf⟩ := gin_of hf
    refine x_iald X hP hG_M.2.2.2.2.2.1 (by omega) hi7 dX6_undo_57 ?_
    obtain rfl := Option.some.inj hf
    exact hret _ _ _ _ _ _ dX6_undo_58 rfl rfl (⟨hG_M, hfr⟩) hP hS
  · have hf := ifp hf c2
    refine lv_bipush (v := (-4)) X.1 X.2.1 dX6_undo_10 (by decide) ?_
    obtain rfl := Option.some.inj hf
    exact hret _ _ _ _ _ _ dX6_undo_12 rfl rfl (⟨hG_M, hfr⟩) hP hS
