theorem dX1_clear_0 : decode cX1_clear 0 = .ok (.aload_n 0, 1) := by decide +kernel
theorem dX1_clear_1 : decode cX1_clear 1 = .ok (.iconst 0, 1) := by decide +kernel
theorem dX1_clear_2 : decode cX1_clear 2 = .ok (.putfield 9, 3) := by decide +kernel
theorem dX1_clear_5 : decode cX1_clear 5 = .ok (.aload_n 0, 1) := by decide +kernel
theorem dX1_clear_6 : decode cX1_clear 6 = .ok (.iconst 0, 1) := by decide +kernel
theorem dX1_clear_7 : decode cX1_clear 7 = .ok (.putfield 22, 3) := by decide +kernel
theorem dX1_clear_10 : decode cX1_clear 10 = .ok (.aload_n 0, 1) := by decide +kernel
theorem dX1_clear_11 : decode cX1_clear 11 = .ok (.iconst 0, 1) := by decide +kernel
theorem dX1_clear_12 : decode cX1_clear 12 = .ok (.putfield 37, 3) := by decide +kernel
theorem dX1_clear_15 : decode cX1_clear 15 = .ok (.return_, 1) := by decide +kernel
theorem dX1_take_0 : decode cX1_take 0 = .ok (.aload_n 0, 1) := by decide +kernel
theorem dX1_take_1 : decode cX1_take 1 = .ok (.aload_n 1, 1) := by decide +kernel
theorem dX1_take_2 : decode cX1_take 2 = .ok (.getfield 9, 3) := by decide +kernel
theorem dX1_take_5 : decode cX1_take 5 = .ok (.putfield 9, 3) := by decide +kernel
theorem dX1_take_8 : decode cX1_take 8 = .ok (.aload_n 1, 1) := by decide +kernel
theorem dX1_take_9 : decode cX1_take 9 = .ok (.getfield 15, 3) := by decide +kernel
theorem dX1_take_12 : decode cX1_take 12 = .ok (.iconst 0, 1) := by decide +kernel
theorem dX1_take_13 : decode cX1_take 13 = .ok (.aload_n 0, 1) := by decide +kernel
theorem dX1_take_14 : decode cX1_take 14 = .ok (.getfield 15, 3) := by decide +kernel
theorem dX1_take_17 : decode cX1_take 17 = .ok (.iconst 0, 1) := by decide +kernel
theorem dX1_take_18 : decode cX1_take 18 = .ok (.iconst 5, 1) := by decide +kernel
theorem dX1_take_19 : decode cX1_take 19 = .ok (.invokestatic 43, 3) := by decide +kernel
theorem dX1_take_22 : decode cX1_take 22 = .ok (.aload_n 1, 1) := by decide +kernel
theorem dX1_take_23 : decode cX1_take 23 = .ok (.getfield 19, 3) := by decide +kernel
theorem dX1_take_26 : decode cX1_take 26 = .ok (.iconst 0, 1) := by decide +kernel
theorem dX1_take_27 : decode cX1_take 27 = .ok (.aload_n 0, 1) := by decide +kernel
theorem dX1_take_28 : decode cX1_take 28 = .ok (.getfield 19, 3) := by decide +kernel
theorem dX1_take_31 : decode cX1_take 31 = .ok (.iconst 0, 1) := by decide +kernel
theorem dX1_take_32 : decode cX1_take 32 = .ok (.iconst 5, 1) := by decide +kernel
theorem dX1_take_33 : decode cX1_take 33 = .ok (.invokestatic 43, 3) := by decide +kernel
theorem dX1_take_36 : decode cX1_take 36 = .ok (.aload_n 0, 1) := by decide +kernel
theorem dX1_take_37 : decode cX1_take 37 = .ok (.aload_n 1, 1) := by decide +kernel
theorem dX1_take_38 : decode cX1_take 38 = .ok (.getfield 22, 3) := by decide +kernel
theorem dX1_take_41 : decode cX1_take 41 = .ok (.putfield 22, 3) := by decide +kernel
theorem dX1_take_44 : decode cX1_take 44 = .ok (.aload_n 1, 1) := by decide +kernel
theorem dX1_take_45 : decode cX1_take 45 = .ok (.getfield 25, 3) := by decide +kernel
theorem dX1_take_48 : decode cX1_take 48 = .ok (.iconst 0, 1) := by decide +kernel
theorem dX1_take_49 : decode cX1_take 49 = .ok (.aload_n 0, 1) := by decide +kernel
theorem dX1_take_50 : decode cX1_take 50 = .ok (.getfield 25, 3) := by decide +kernel
theorem dX1_take_53 : decode cX1_take 53 = .ok (.iconst 0, 1) := by decide +kernel
theorem dX1_take_54 : decode cX1_take 54 = .ok (.bipush 6, 2) := by decide +kernel
theorem dX1_take_56 : decode cX1_take 56 = .ok (.invokestatic 43, 3) := by decide +kernel
theorem dX1_take_59 : decode cX1_take 59 = .ok (.aload_n 1, 1) := by decide +kernel
theorem dX1_take_60 : decode cX1_take 60 = .ok (.getfield 28, 3) := by decide +kernel
theorem dX1_take_63 : decode cX1_take 63 = .ok (.iconst 0, 1) := by decide +kernel
theorem dX1_take_64 : decode cX1_take 64 = .ok (.aload_n 0, 1) := by decide +kernel
theorem dX1_take_65 : decode cX1_take 65 = .ok (.getfield 28, 3) := by decide +kernel
theorem dX1_take_68 : decode cX1_take 68 = .ok (.iconst 0, 1) := by decide +kernel
theorem dX1_take_69 : decode cX1_take 69 = .ok (.bipush 6, 2) := by decide +kernel
theorem dX1_take_71 : decode cX1_take 71 = .ok (.invokestatic 43, 3) := by decide +kernel
theorem dX1_take_74 : decode cX1_take 74 = .ok (.aload_n 1, 1) := by decide +kernel
theorem dX1_take_75 : decode cX1_take 75 = .ok (.getfield 31, 3) := by decide +kernel
theorem dX1_take_78 : decode cX1_take 78 = .ok (.iconst 0, 1) := by decide +kernel
theorem dX1_take_79 : decode cX1_take 79 = .ok (.aload_n 0, 1) := by decide +kernel
theorem dX1_take_80 : decode cX1_take 80 = .ok (.getfield 31, 3) := by decide +kernel
theorem dX1_take_83 : decode cX1_take 83 = .ok (.iconst 0, 1) := by decide +kernel
theorem dX1_take_84 : decode cX1_take 84 = .ok (.bipush 6, 2) := by decide +kernel
theorem dX1_take_86 : decode cX1_take 86 = .ok (.invokestatic 43, 3) := by decide +kernel
theorem dX1_take_89 : decode cX1_take 89 = .ok (.aload_n 1, 1) := by decide +kernel
theorem dX1_take_90 : decode cX1_take 90 = .ok (.getfield 34, 3) := by decide +kernel
theorem dX1_take_93 : decode cX1_take 93 = .ok (.iconst 0, 1) := by decide +kernel
theorem dX1_take_94 : decode cX1_take 94 = .ok (.aload_n 0, 1) := by decide +kernel
theorem dX1_take_95 : decode cX1_take 95 = .ok (.getfield 34, 3) := by decide +kernel
theorem dX1_take_98 : decode cX1_take 98 = .ok (.iconst 0, 1) := by decide +kernel
theorem dX1_take_99 : decode cX1_take 99 = .ok (.bipush 6, 2) := by decide +kernel
theorem dX1_take_101 : decode cX1_take 101 = .ok (.invokestatic 43, 3) := by decide +kernel
theorem dX1_take_104 : decode cX1_take 104 = .ok (.aload_n 0, 1) := by decide +kernel
theorem dX1_take_105 : decode cX1_take 105 = .ok (.aload_n 1, 1) := by decide +kernel
theorem dX1_take_106 : decode cX1_take 106 = .ok (.getfield 37, 3) := by decide +kernel
theorem dX1_take_109 : decode cX1_take 109 = .ok (.putfield 37, 3) := by decide +kernel
theorem dX1_take_112 : decode cX1_take 112 = .ok (.aload_n 0, 1) := by decide +kernel
theorem dX1_take_113 : decode cX1_take 113 = .ok (.aload_n 1, 1) := by decide +kernel
theorem dX1_take_114 : decode cX1_take 114 = .ok (.getfield 40, 3) := by decide +kernel
theorem dX1_take_117 : decode cX1_take 117 = .ok (.putfield 40, 3) := by decide +kernel
theorem dX1_take_120 : decode cX1_take 120 = .ok (.return_, 1) := by decide +kernel
theorem dX1_hasMan_0 : decode cX1_hasMan 0 = .ok (.iload_n 1, 1) := by decide +kernel
theorem dX1_hasMan_1 : decode cX1_hasMan 1 = .ok (.ifCond .lt 15, 3) := by decide +kernel
theorem dX1_hasMan_4 : decode cX1_hasMan 4 = .ok (.iload_n 1, 1) := by decide +kernel
theorem dX1_hasMan_5 : decode cX1_hasMan 5 = .ok (.aload_n 0, 1) := by decide +kernel
theorem dX1_hasMan_6 : decode cX1_hasMan 6 = .ok (.getfield 9, 3) := by decide +kernel
theorem dX1_hasMan_9 : decode cX1_hasMan 9 = .ok (.if_icmp .ge 7, 3) := by decide +kernel
theorem dX1_hasMan_12 : decode cX1_hasMan 12 = .ok (.iconst 1, 1) := by decide +kernel
theorem dX1_hasMan_13 : decode cX1_hasMan 13 = .ok (.goto 4, 3) := by decide +kernel
theorem dX1_hasMan_16 : decode cX1_hasMan 16 = .ok (.iconst 0, 1) := by decide +kernel
theorem dX1_hasMan_17 : decode cX1_hasMan 17 = .ok (.ireturn, 1) := by decide +kernel
theorem dX1_hasMedal_0 : decode cX1_hasMedal 0 = .ok (.iload_n 1, 1) := by decide +kernel
theorem dX1_hasMedal_1 : decode cX1_hasMedal 1 = .ok (.ifCond .lt 15, 3) := by decide +kernel
theorem dX1_hasMedal_4 : decode cX1_hasMedal 4 = .ok (.iload_n 1, 1) := by decide +kernel
theorem dX1_hasMedal_5 : decode cX1_hasMedal 5 = .ok (.aload_n 0, 1) := by decide +kernel
theorem dX1_hasMedal_6 : decode cX1_hasMedal 6 = .ok (.getfield 22, 3) := by decide +kernel
theorem dX1_hasMedal_9 : decode cX1_hasMedal 9 = .ok (.if_icmp .ge 7, 3) := by decide +kernel
theorem dX1_hasMedal_12 : decode cX1_hasMedal 12 = .ok (.iconst 1, 1) := by decide +kernel
theorem dX1_hasMedal_13 : decode cX1_hasMedal 13 = .ok (.goto 4, 3) := by decide +kernel
theorem dX1_hasMedal_16 : decode cX1_hasMedal 16 = .ok (.iconst 0, 1) := by decide +kernel
theorem dX1_hasMedal_17 : decode cX1_hasMedal 17 = .ok (.ireturn, 1) := by decide +kernel
theorem dX1_addMan_0 : decode cX1_addMan 0 = .ok (.aload_n 0, 1) := by decide +kernel
theorem dX1_addMan_1 : decode cX1_addMan 1 = .ok (.getfield 9, 3) := by decide +kernel
theorem dX1_addMan_4 : decode cX1_addMan 4 = .ok (.iconst 5, 1) := by decide +kernel
theorem dX1_addMan_5 : decode cX1_addMan 5 = .ok (.if_icmp .lt 6, 3) := by decide +kernel
theorem dX1_addMan_8 : decode cX1_addMan 8 = .ok (.bipush (-3), 2) := by decide +kernel
theorem dX1_addMan_10 : decode cX1_addMan 10 = .ok (.ireturn, 1) := by decide +kernel
theorem dX1_addMan_11 : decode cX1_addMan 11 = .ok (.aload_n 0, 1) := by decide +kernel
theorem dX1_addMan_12 : decode cX1_addMan 12 = .ok (.getfield 15, 3) := by decide +kernel
theorem dX1_addMan_15 : decode cX1_addMan 15 = .ok (.aload_n 0, 1) := by decide +kernel
theorem dX1_addMan_16 : decode cX1_addMan 16 = .ok (.getfield 9, 3) := by decide +kernel
theorem dX1_addMan_19 : decode cX1_addMan 19 = .ok (.iload_n 1, 1) := by decide +kernel
theorem dX1_addMan_20 : decode cX1_addMan 20 = .ok (.iastore, 1) := by decide +kernel
theorem dX1_addMan_21 : decode cX1_addMan 21 = .ok (.aload_n 0, 1) := by decide +kernel
theorem dX1_addMan_22 : decode cX1_addMan 22 = .ok (.getfield 19, 3) := by decide +kernel
theorem dX1_addMan_25 : decode cX1_addMan 25 = .ok (.aload_n 0, 1) := by decide +kernel
theorem dX1_addMan_26 : decode cX1_addMan 26 = .ok (.getfield 9, 3) := by decide +kernel
theorem dX1_addMan_29 : decode cX1_addMan 29 = .ok (.iload_n 2, 1) := by decide +kernel
theorem dX1_addMan_30 : decode cX1_addMan 30 = .ok (.iastore, 1) := by decide +kernel
theorem dX1_addMan_31 : decode cX1_addMan 31 = .ok (.aload_n 0, 1) := by decide +kernel
theorem dX1_addMan_32 : decode cX1_addMan 32 = .ok (.dup, 1) := by decide +kernel
theorem dX1_addMan_33 : decode cX1_addMan 33 = .ok (.getfield 9, 3) := by decide +kernel
theorem dX1_addMan_36 : decode cX1_addMan 36 = .ok (.iconst 1, 1) := by decide +kernel
theorem dX1_addMan_37 : decode cX1_addMan 37 = .ok (.iadd, 1) := by decide +kernel
theorem dX1_addMan_38 : decode cX1_addMan 38 = .ok (.putfield 9, 3) := by decide +kernel
theorem dX1_addMan_41 : decode cX1_addMan 41 = .ok (.aload_n 0, 1) := by decide +kernel
theorem dX1_addMan_42 : decode cX1_addMan 42 = .ok (.getfield 9, 3) := by decide +kernel
theorem dX1_addMan_45 : decode cX1_addMan 45 = .ok (.iconst 1, 1) := by decide +kernel
theorem dX1_addMan_46 : decode cX1_addMan 46 = .ok (.isub, 1) := by decide +kernel
theorem dX1_addMan_47 : decode cX1_addMan 47 = .ok (.ireturn, 1) := by decide +kernel
theorem dX1_addMedal_0 : decode cX1_addMedal 0 = .ok (.aload_n 0, 1) := by decide +kernel
theorem dX1_addMedal_1 : decode cX1_addMedal 1 = .ok (.getfield 22, 3) := by decide +kernel
theorem dX1_addMedal_4 : decode cX1_addMedal 4 = .ok (.bipush 6, 2) := by decide +kernel
theorem dX1_addMedal_6 : decode cX1_addMedal 6 = .ok (.if_icmp .lt 6, 3) := by decide +kernel
theorem dX1_addMedal_9 : decode cX1_addMedal 9 = .ok (.bipush (-3), 2) := by decide +kernel
theorem dX1_addMedal_11 : decode cX1_addMedal 11 = .ok (.ireturn, 1) := by decide +kernel
theorem dX1_addMedal_12 : decode cX1_addMedal 12 = .ok (.aload_n 0, 1) := by decide +kernel
theorem dX1_addMedal_13 : decode cX1_addMedal 13 = .ok (.getfield 25, 3) := by decide +kernel
theorem dX1_addMedal_16 : decode cX1_addMedal 16 = .ok (.aload_n 0, 1) := by decide +kernel
theorem dX1_addMedal_17 : decode cX1_addMedal 17 = .ok (.getfield 22, 3) := by decide +kernel
theorem dX1_addMedal_20 : decode cX1_addMedal 20 = .ok (.iload_n 1, 1) := by decide +kernel
theorem dX1_addMedal_21 : decode cX1_addMedal 21 = .ok (.iastore, 1) := by decide +kernel
theorem dX1_addMedal_22 : decode cX1_addMedal 22 = .ok (.aload_n 0, 1) := by decide +kernel
theorem dX1_addMedal_23 : decode cX1_addMedal 23 = .ok (.getfield 28, 3) := by decide +kernel
theorem dX1_addMedal_26 : decode cX1_addMedal 26 = .ok (.aload_n 0, 1) := by decide +kernel
theorem dX1_addMedal_27 : decode cX1_addMedal 27 = .ok (.getfield 22, 3) := by decide +kernel
theorem dX1_addMedal_30 : decode cX1_addMedal 30 = .ok (.iload_n 2, 1) := by decide +kernel
theorem dX1_addMedal_31 : decode cX1_addMedal 31 = .ok (.iastore, 1) := by decide +kernel
theorem dX1_addMedal_32 : decode cX1_addMedal 32 = .ok (.aload_n 0, 1) := by decide +kernel
theorem dX1_addMedal_33 : decode cX1_addMedal 33 = .ok (.getfield 31, 3) := by decide +kernel
theorem dX1_addMedal_36 : decode cX1_addMedal 36 = .ok (.aload_n 0, 1) := by decide +kernel
theorem dX1_addMedal_37 : decode cX1_addMedal 37 = .ok (.getfield 22, 3) := by decide +kernel
theorem dX1_addMedal_40 : decode cX1_addMedal 40 = .ok (.iload_n 3, 1) := by decide +kernel
theorem dX1_addMedal_41 : decode cX1_addMedal 41 = .ok (.iastore, 1) := by decide +kernel
theorem dX1_addMedal_42 : decode cX1_addMedal 42 = .ok (.aload_n 0, 1) := by decide +kernel
theorem dX1_addMedal_43 : decode cX1_addMedal 43 = .ok (.getfield 34, 3) := by decide +kernel
theorem dX1_addMedal_46 : decode cX1_addMedal 46 = .ok (.aload_n 0, 1) := by decide +kernel
theorem dX1_addMedal_47 : decode cX1_addMedal 47 = .ok (.getfield 22, 3) := by decide +kernel
theorem dX1_addMedal_50 : decode cX1_addMedal 50 = .ok (.iload 4, 2) := by decide +kernel
theorem dX1_addMedal_52 : decode cX1_addMedal 52 = .ok (.iastore, 1) := by decide +kernel
theorem dX1_addMedal_53 : decode cX1_addMedal 53 = .ok (.aload_n 0, 1) := by decide +kernel
theorem dX1_addMedal_54 : decode cX1_addMedal 54 = .ok (.dup, 1) := by decide +kernel
theorem dX1_addMedal_55 : decode cX1_addMedal 55 = .ok (.getfield 22, 3) := by decide +kernel
theorem dX1_addMedal_58 : decode cX1_addMedal 58 = .ok (.iconst 1, 1) := by decide +kernel
theorem dX1_addMedal_59 : decode cX1_addMedal 59 = .ok (.iadd, 1) := by decide +kernel
theorem dX1_addMedal_60 : decode cX1_addMedal 60 = .ok (.putfield 22, 3) := by decide +kernel
theorem dX1_addMedal_63 : decode cX1_addMedal 63 = .ok (.aload_n 0, 1) := by decide +kernel
theorem dX1_addMedal_64 : decode cX1_addMedal 64 = .ok (.getfield 22, 3) := by decide +kernel
theorem dX1_addMedal_67 : decode cX1_addMedal 67 = .ok (.iconst 1, 1) := by decide +kernel
theorem dX1_addMedal_68 : decode cX1_addMedal 68 = .ok (.isub, 1) := by decide +kernel
theorem dX1_addMedal_69 : decode cX1_addMedal 69 = .ok (.ireturn, 1) := by decide +kernel
set_option maxRecDepth 20000 in
theorem ggX1_wornBy_X1_medalsWith : GoodIn wsX1_wornBy wsX1_medalsWith := goodIn_r _ [6, 7, 8, 9, 10, 11, 12, 13, 14, 15, 16, 17] (by decide +kernel) (by decide +kernel)
set_option maxRecDepth 20000 in
theorem gX1_wornBy_X1_medalsWith : GoodIn wsX1_wornBy (wsV RX1 49 RX1 yX1_medalsWith wsX1_medalsWith) := goodIn_app (goodIn_of _ (by decide +kernel)) ggX1_wornBy_X1_medalsWith
theorem dX1_wornBy_0 : decode cX1_wornBy 0 = .ok (.aload_n 0, 1) := by decide +kernel
theorem dX1_wornBy_1 : decode cX1_wornBy 1 = .ok (.aload_n 0, 1) := by decide +kernel
theorem dX1_wornBy_2 : decode cX1_wornBy 2 = .ok (.getfield 34, 3) := by decide +kernel
theorem dX1_wornBy_5 : decode cX1_wornBy 5 = .ok (.iload_n 1, 1) := by decide +kernel
theorem dX1_wornBy_6 : decode cX1_wornBy 6 = .ok (.invokevirtual 49, 3) := by decide +kernel
theorem dX1_wornBy_9 : decode cX1_wornBy 9 = .ok (.ireturn, 1) := by decide +kernel
set_option maxRecDepth 20000 in
theorem ggX1_allWorn_X1_wornBy : GoodIn wsX1_allWorn wsX1_wornBy := goodIn_r _ [6, 7, 8, 9, 10, 5, 11, 1, 12, 13, 14, 15, 16, 17, 18, 19, 20, 21] (by decide +kernel) (by decide +kernel)
set_option maxRecDepth 20000 in
theorem gX1_allWorn_X1_wornBy : GoodIn wsX1_allWorn (wsV RX1 53 RX1 yX1_wornBy wsX1_wornBy) := goodIn_app (goodIn_of _ (by decide +kernel)) ggX1_allWorn_X1_wornBy
theorem dX1_allWorn_0 : decode cX1_allWorn 0 = .ok (.iconst 1, 1) := by decide +kernel
theorem dX1_allWorn_1 : decode cX1_allWorn 1 = .ok (.aload_n 0, 1) := by decide +kernel
theorem dX1_allWorn_2 : decode cX1_allWorn 2 = .ok (.getfield 22, 3) := by decide +kernel
theorem dX1_allWorn_5 : decode cX1_allWorn 5 = .ok (.ishl, 1) := by decide +kernel
theorem dX1_allWorn_6 : decode cX1_allWorn 6 = .ok (.iconst 1, 1) := by decide +kernel
theorem dX1_allWorn_7 : decode cX1_allWorn 7 = .ok (.isub, 1) := by decide +kernel
theorem dX1_allWorn_8 : decode cX1_allWorn 8 = .ok (.aload_n 0, 1) := by decide +kernel
theorem dX1_allWorn_9 : decode cX1_allWorn 9 = .ok (.bipush (-4), 2) := by decide +kernel
theorem dX1_allWorn_11 : decode cX1_allWorn 11 = .ok (.invokevirtual 53, 3) := by decide +kernel
theorem dX1_allWorn_14 : decode cX1_allWorn 14 = .ok (.iconst (-1), 1) := by decide +kernel
theorem dX1_allWorn_15 : decode cX1_allWorn 15 = .ok (.ixor, 1) := by decide +kernel
theorem dX1_allWorn_16 : decode cX1_allWorn 16 = .ok (.iand, 1) := by decide +kernel
theorem dX1_allWorn_17 : decode cX1_allWorn 17 = .ok (.ireturn, 1) := by decide +kernel
set_option maxRecDepth 20000 in
theorem ggX1_woundsOf_X1_medalsWith : GoodIn wsX1_woundsOf wsX1_medalsWith := goodIn_r _ [6, 7, 8, 9, 10, 11, 12, 13, 14, 15, 16, 17] (by decide +kernel) (by decide +kernel)
set_option maxRecDepth 20000 in
theorem gX1_woundsOf_X1_medalsWith : GoodIn wsX1_woundsOf (wsV RX1 49 RX1 yX1_medalsWith wsX1_medalsWith) := goodIn_app (goodIn_of _ (by decide +kernel)) ggX1_woundsOf_X1_medalsWith
theorem dX1_woundsOf_0 : decode cX1_woundsOf 0 = .ok (.aload_n 0, 1) := by decide +kernel
theorem dX1_woundsOf_1 : decode cX1_woundsOf 1 = .ok (.aload_n 0, 1) := by decide +kernel
theorem dX1_woundsOf_2 : decode cX1_woundsOf 2 = .ok (.getfield 31, 3) := by decide +kernel
theorem dX1_woundsOf_5 : decode cX1_woundsOf 5 = .ok (.iload_n 1, 1) := by decide +kernel
theorem dX1_woundsOf_6 : decode cX1_woundsOf 6 = .ok (.invokevirtual 49, 3) := by decide +kernel
theorem dX1_woundsOf_9 : decode cX1_woundsOf 9 = .ok (.ireturn, 1) := by decide +kernel
theorem dX1_medalsWith_0 : decode cX1_medalsWith 0 = .ok (.iconst 0, 1) := by decide +kernel
theorem dX1_medalsWith_1 : decode cX1_medalsWith 1 = .ok (.istore_n 3, 1) := by decide +kernel
theorem dX1_medalsWith_2 : decode cX1_medalsWith 2 = .ok (.iconst 0, 1) := by decide +kernel
theorem dX1_medalsWith_3 : decode cX1_medalsWith 3 = .ok (.istore 4, 2) := by decide +kernel
theorem dX1_medalsWith_5 : decode cX1_medalsWith 5 = .ok (.iload 4, 2) := by decide +kernel
theorem dX1_medalsWith_7 : decode cX1_medalsWith 7 = .ok (.aload_n 0, 1) := by decide +kernel
theorem dX1_medalsWith_8 : decode cX1_medalsWith 8 = .ok (.getfield 22, 3) := by decide +kernel
theorem dX1_medalsWith_11 : decode cX1_medalsWith 11 = .ok (.if_icmp .ge 24, 3) := by decide +kernel
theorem dX1_medalsWith_14 : decode cX1_medalsWith 14 = .ok (.aload_n 1, 1) := by decide +kernel
theorem dX1_medalsWith_15 : decode cX1_medalsWith 15 = .ok (.iload 4, 2) := by decide +kernel
theorem dX1_medalsWith_17 : decode cX1_medalsWith 17 = .ok (.iaload, 1) := by decide +kernel
theorem dX1_medalsWith_18 : decode cX1_medalsWith 18 = .ok (.iload_n 2, 1) := by decide +kernel
theorem dX1_medalsWith_19 : decode cX1_medalsWith 19 = .ok (.if_icmp .ne 10, 3) := by decide +kernel
theorem dX1_medalsWith_22 : decode cX1_medalsWith 22 = .ok (.iload_n 3, 1) := by decide +kernel
theorem dX1_medalsWith_23 : decode cX1_medalsWith 23 = .ok (.iconst 1, 1) := by decide +kernel
theorem dX1_medalsWith_24 : decode cX1_medalsWith 24 = .ok (.iload 4, 2) := by decide +kernel
theorem dX1_medalsWith_26 : decode cX1_medalsWith 26 = .ok (.ishl, 1) := by decide +kernel
theorem dX1_medalsWith_27 : decode cX1_medalsWith 27 = .ok (.ior, 1) := by decide +kernel
theorem dX1_medalsWith_28 : decode cX1_medalsWith 28 = .ok (.istore_n 3, 1) := by decide +kernel
theorem dX1_medalsWith_29 : decode cX1_medalsWith 29 = .ok (.iinc 4 1, 3) := by decide +kernel
theorem dX1_medalsWith_32 : decode cX1_medalsWith 32 = .ok (.goto (-27), 3) := by decide +kernel
theorem dX1_medalsWith_35 : decode cX1_medalsWith 35 = .ok (.iload_n 3, 1) := by decide +kernel
theorem dX1_medalsWith_36 : decode cX1_medalsWith 36 = .ok (.ireturn, 1) := by decide +kernel
theorem dX1_bears_0 : decode cX1_bears 0 = .ok (.aload_n 0, 1) := by decide +kernel
theorem dX1_bears_1 : decode cX1_bears 1 = .ok (.getfield 28, 3) := by decide +kernel
theorem dX1_bears_4 : decode cX1_bears 4 = .ok (.iload_n 1, 1) := by decide +kernel
theorem dX1_bears_5 : decode cX1_bears 5 = .ok (.iaload, 1) := by decide +kernel
theorem dX1_bears_6 : decode cX1_bears 6 = .ok (.istore 5, 2) := by decide +kernel
theorem dX1_bears_8 : decode cX1_bears 8 = .ok (.iconst 2, 1) := by decide +kernel
theorem dX1_bears_9 : decode cX1_bears 9 = .ok (.iload 5, 2) := by decide +kernel
theorem dX1_bears_11 : decode cX1_bears 11 = .ok (.imul, 1) := by decide +kernel
theorem dX1_bears_12 : decode cX1_bears 12 = .ok (.istore 6, 2) := by decide +kernel
theorem dX1_bears_14 : decode cX1_bears 14 = .ok (.iload 4, 2) := by decide +kernel
theorem dX1_bears_16 : decode cX1_bears 16 = .ok (.iconst 2, 1) := by decide +kernel
theorem dX1_bears_17 : decode cX1_bears 17 = .ok (.irem, 1) := by decide +kernel
theorem dX1_bears_18 : decode cX1_bears 18 = .ok (.ifCond .ne 8, 3) := by decide +kernel
theorem dX1_bears_21 : decode cX1_bears 21 = .ok (.iload 5, 2) := by decide +kernel
theorem dX1_bears_23 : decode cX1_bears 23 = .ok (.goto 7, 3) := by decide +kernel
theorem dX1_bears_26 : decode cX1_bears 26 = .ok (.iload 5, 2) := by decide +kernel
theorem dX1_bears_28 : decode cX1_bears 28 = .ok (.iconst 3, 1) := by decide +kernel
theorem dX1_bears_29 : decode cX1_bears 29 = .ok (.iadd, 1) := by decide +kernel
theorem dX1_bears_30 : decode cX1_bears 30 = .ok (.istore 7, 2) := by decide +kernel
theorem dX1_bears_32 : decode cX1_bears 32 = .ok (.aload_n 0, 1) := by decide +kernel
theorem dX1_bears_33 : decode cX1_bears 33 = .ok (.getfield 25, 3) := by decide +kernel
theorem dX1_bears_36 : decode cX1_bears 36 = .ok (.iload_n 1, 1) := by decide +kernel
theorem dX1_bears_37 : decode cX1_bears 37 = .ok (.iaload, 1) := by decide +kernel
theorem dX1_bears_38 : decode cX1_bears 38 = .ok (.tableswitch 62 1 4 #[30, 37, 44, 53], 30) := by decide +kernel
theorem dX1_bears_68 : decode cX1_bears 68 = .ok (.iload 6, 2) := by decide +kernel
theorem dX1_bears_70 : decode cX1_bears 70 = .ok (.istore 8, 2) := by decide +kernel
theorem dX1_bears_72 : decode cX1_bears 72 = .ok (.goto 32, 3) := by decide +kernel
theorem dX1_bears_75 : decode cX1_bears 75 = .ok (.iload 7, 2) := by decide +kernel
theorem dX1_bears_77 : decode cX1_bears 77 = .ok (.istore 8, 2) := by decide +kernel
theorem dX1_bears_79 : decode cX1_bears 79 = .ok (.goto 25, 3) := by decide +kernel
theorem dX1_bears_82 : decode cX1_bears 82 = .ok (.iload 6, 2) := by decide +kernel
theorem dX1_bears_84 : decode cX1_bears 84 = .ok (.iload_n 3, 1) := by decide +kernel
theorem dX1_bears_85 : decode cX1_bears 85 = .ok (.iadd, 1) := by decide +kernel
theorem dX1_bears_86 : decode cX1_bears 86 = .ok (.istore 8, 2) := by decide +kernel
theorem dX1_bears_88 : decode cX1_bears 88 = .ok (.goto 16, 3) := by decide +kernel
theorem dX1_bears_91 : decode cX1_bears 91 = .ok (.iload 7, 2) := by decide +kernel
theorem dX1_bears_93 : decode cX1_bears 93 = .ok (.iconst 2, 1) := by decide +kernel
theorem dX1_bears_94 : decode cX1_bears 94 = .ok (.idiv, 1) := by decide +kernel
theorem dX1_bears_95 : decode cX1_bears 95 = .ok (.istore 8, 2) := by decide +kernel
theorem dX1_bears_97 : decode cX1_bears 97 = .ok (.goto 7, 3) := by decide +kernel
theorem dX1_bears_100 : decode cX1_bears 100 = .ok (.iload 5, 2) := by decide +kernel
theorem dX1_bears_102 : decode cX1_bears 102 = .ok (.istore 8, 2) := by decide +kernel
theorem dX1_bears_104 : decode cX1_bears 104 = .ok (.aload_n 0, 1) := by decide +kernel
theorem dX1_bears_105 : decode cX1_bears 105 = .ok (.getfield 31, 3) := by decide +kernel
theorem dX1_bears_108 : decode cX1_bears 108 = .ok (.iload_n 1, 1) := by decide +kernel
theorem dX1_bears_109 : decode cX1_bears 109 = .ok (.iaload, 1) := by decide +kernel
theorem dX1_bears_110 : decode cX1_bears 110 = .ok (.iload_n 2, 1) := by decide +kernel
theorem dX1_bears_111 : decode cX1_bears 111 = .ok (.if_icmp .ne 10, 3) := by decide +kernel
theorem dX1_bears_114 : decode cX1_bears 114 = .ok (.iload 8, 2) := by decide +kernel
theorem dX1_bears_116 : decode cX1_bears 116 = .ok (.iconst 2, 1) := by decide +kernel
theorem dX1_bears_117 : decode cX1_bears 117 = .ok (.idiv, 1) := by decide +kernel
theorem dX1_bears_118 : decode cX1_bears 118 = .ok (.goto 5, 3) := by decide +kernel
theorem dX1_bears_121 : decode cX1_bears 121 = .ok (.iload 8, 2) := by decide +kernel
theorem dX1_bears_123 : decode cX1_bears 123 = .ok (.ireturn, 1) := by decide +kernel
set_option maxRecDepth 20000 in
theorem ggX1_bearsNow_X1_wornBy : GoodIn wsX1_bearsNow wsX1_wornBy := goodIn_r _ [7, 1, 8, 9, 10, 6, 11, 12, 27, 28, 29, 30, 31, 32, 33, 34, 35, 36] (by decide +kernel) (by decide +kernel)
set_option maxRecDepth 20000 in
theorem gX1_bearsNow_X1_wornBy : GoodIn wsX1_bearsNow (wsV RX1 53 RX1 yX1_wornBy wsX1_wornBy) := goodIn_app (goodIn_of _ (by decide +kernel)) ggX1_bearsNow_X1_wornBy
set_option maxRecDepth 20000 in
theorem ggX1_bearsNow_J6_bitCount_0f7a4 : GoodIn wsX1_bearsNow wsJ6_bitCount_0f7a4 := goodIn_r _ [16, 17, 18, 19] (by decide +kernel) (by decide +kernel)
set_option maxRecDepth 20000 in
theorem gX1_bearsNow_J6_bitCount_0f7a4 : GoodIn wsX1_bearsNow (va_wsS RX1 57 yJ6_bitCount_0f7a4 wsJ6_bitCount_0f7a4) := goodIn_app (goodIn_of _ (by decide +kernel)) ggX1_bearsNow_J6_bitCount_0f7a4
set_option maxRecDepth 20000 in
theorem ggX1_bearsNow_X1_bears : GoodIn wsX1_bearsNow wsX1_bears := goodIn_r _ [23, 24, 25, 26, 27, 28, 29, 30, 31, 32, 33, 34, 35, 36] (by decide +kernel) (by decide +kernel)
set_option maxRecDepth 20000 in
theorem gX1_bearsNow_X1_bears : GoodIn wsX1_bearsNow (wsV RX1 62 RX1 yX1_bears wsX1_bears) := goodIn_app (goodIn_of _ (by decide +kernel)) ggX1_bearsNow_X1_bears
theorem dX1_bearsNow_0 : decode cX1_bearsNow 0 = .ok (.aload_n 0, 1) := by decide +kernel
theorem dX1_bearsNow_1 : decode cX1_bearsNow 1 = .ok (.getfield 34, 3) := by decide +kernel
theorem dX1_bearsNow_4 : decode cX1_bearsNow 4 = .ok (.iload_n 1, 1) := by decide +kernel
theorem dX1_bearsNow_5 : decode cX1_bearsNow 5 = .ok (.iaload, 1) := by decide +kernel
theorem dX1_bearsNow_6 : decode cX1_bearsNow 6 = .ok (.istore_n 2, 1) := by decide +kernel
theorem dX1_bearsNow_7 : decode cX1_bearsNow 7 = .ok (.iload_n 2, 1) := by decide +kernel
theorem dX1_bearsNow_8 : decode cX1_bearsNow 8 = .ok (.bipush (-4), 2) := by decide +kernel
theorem dX1_bearsNow_10 : decode cX1_bearsNow 10 = .ok (.if_icmp .ne 5, 3) := by decide +kernel
theorem dX1_bearsNow_13 : decode cX1_bearsNow 13 = .ok (.iconst 0, 1) := by decide +kernel
theorem dX1_bearsNow_14 : decode cX1_bearsNow 14 = .ok (.ireturn, 1) := by decide +kernel
theorem dX1_bearsNow_15 : decode cX1_bearsNow 15 = .ok (.aload_n 0, 1) := by decide +kernel
theorem dX1_bearsNow_16 : decode cX1_bearsNow 16 = .ok (.iload_n 1, 1) := by decide +kernel
theorem dX1_bearsNow_17 : decode cX1_bearsNow 17 = .ok (.iload_n 2, 1) := by decide +kernel
theorem dX1_bearsNow_18 : decode cX1_bearsNow 18 = .ok (.aload_n 0, 1) := by decide +kernel
theorem dX1_bearsNow_19 : decode cX1_bearsNow 19 = .ok (.iload_n 2, 1) := by decide +kernel
theorem dX1_bearsNow_20 : decode cX1_bearsNow 20 = .ok (.invokevirtual 53, 3) := by decide +kernel
theorem dX1_bearsNow_23 : decode cX1_bearsNow 23 = .ok (.invokestatic 57, 3) := by decide +kernel
theorem dX1_bearsNow_26 : decode cX1_bearsNow 26 = .ok (.iconst 1, 1) := by decide +kernel
theorem dX1_bearsNow_27 : decode cX1_bearsNow 27 = .ok (.isub, 1) := by decide +kernel
theorem dX1_bearsNow_28 : decode cX1_bearsNow 28 = .ok (.aload_n 0, 1) := by decide +kernel
theorem dX1_bearsNow_29 : decode cX1_bearsNow 29 = .ok (.getfield 37, 3) := by decide +kernel
theorem dX1_bearsNow_32 : decode cX1_bearsNow 32 = .ok (.invokevirtual 62, 3) := by decide +kernel
theorem dX1_bearsNow_35 : decode cX1_bearsNow 35 = .ok (.ireturn, 1) := by decide +kernel
set_option maxRecDepth 20000 in
theorem ggX1_loadOfSet_J6_bitCount_0f7a4 : GoodIn wsX1_loadOfSet wsJ6_bitCount_0f7a4 := goodIn_r _ [5, 6, 7, 8] (by decide +kernel) (by decide +kernel)
set_option maxRecDepth 20000 in
theorem gX1_loadOfSet_J6_bitCount_0f7a4 : GoodIn wsX1_loadOfSet (va_wsS RX1 57 yJ6_bitCount_0f7a4 wsJ6_bitCount_0f7a4) := goodIn_app (goodIn_of _ (by decide +kernel)) ggX1_loadOfSet_J6_bitCount_0f7a4
set_option maxRecDepth 20000 in
theorem ggX1_loadOfSet_X1_bears : GoodIn wsX1_loadOfSet wsX1_bears := goodIn_r _ [13, 14, 15, 16, 17, 18, 19, 20, 21, 22, 23, 24, 25, 26] (by decide +kernel) (by decide +kernel)
set_option maxRecDepth 20000 in
theorem gX1_loadOfSet_X1_bears : GoodIn wsX1_loadOfSet (wsV RX1 62 RX1 yX1_bears wsX1_bears) := goodIn_app (goodIn_of _ (by decide +kernel)) ggX1_loadOfSet_X1_bears
theorem dX1_loadOfSet_0 : decode cX1_loadOfSet 0 = .ok (.iload_n 2, 1) := by decide +kernel
theorem dX1_loadOfSet_1 : decode cX1_loadOfSet 1 = .ok (.invokestatic 57, 3) := by decide +kernel
theorem dX1_loadOfSet_4 : decode cX1_loadOfSet 4 = .ok (.iconst 1, 1) := by decide +kernel
theorem dX1_loadOfSet_5 : decode cX1_loadOfSet 5 = .ok (.isub, 1) := by decide +kernel
theorem dX1_loadOfSet_6 : decode cX1_loadOfSet 6 = .ok (.istore 4, 2) := by decide +kernel
theorem dX1_loadOfSet_8 : decode cX1_loadOfSet 8 = .ok (.iconst 0, 1) := by decide +kernel
theorem dX1_loadOfSet_9 : decode cX1_loadOfSet 9 = .ok (.istore 5, 2) := by decide +kernel
theorem dX1_loadOfSet_11 : decode cX1_loadOfSet 11 = .ok (.iconst 0, 1) := by decide +kernel
theorem dX1_loadOfSet_12 : decode cX1_loadOfSet 12 = .ok (.istore 6, 2) := by decide +kernel
theorem dX1_loadOfSet_14 : decode cX1_loadOfSet 14 = .ok (.iload 6, 2) := by decide +kernel
theorem dX1_loadOfSet_16 : decode cX1_loadOfSet 16 = .ok (.aload_n 0, 1) := by decide +kernel
theorem dX1_loadOfSet_17 : decode cX1_loadOfSet 17 = .ok (.getfield 22, 3) := by decide +kernel
theorem dX1_loadOfSet_20 : decode cX1_loadOfSet 20 = .ok (.if_icmp .ge 34, 3) := by decide +kernel
theorem dX1_loadOfSet_23 : decode cX1_loadOfSet 23 = .ok (.iload_n 2, 1) := by decide +kernel
theorem dX1_loadOfSet_24 : decode cX1_loadOfSet 24 = .ok (.iload 6, 2) := by decide +kernel
theorem dX1_loadOfSet_26 : decode cX1_loadOfSet 26 = .ok (.ishr, 1) := by decide +kernel
theorem dX1_loadOfSet_27 : decode cX1_loadOfSet 27 = .ok (.iconst 1, 1) := by decide +kernel
theorem dX1_loadOfSet_28 : decode cX1_loadOfSet 28 = .ok (.iand, 1) := by decide +kernel
theorem dX1_loadOfSet_29 : decode cX1_loadOfSet 29 = .ok (.iconst 1, 1) := by decide +kernel
theorem dX1_loadOfSet_30 : decode cX1_loadOfSet 30 = .ok (.if_icmp .ne 18, 3) := by decide +kernel
theorem dX1_loadOfSet_33 : decode cX1_loadOfSet 33 = .ok (.iload 5, 2) := by decide +kernel
theorem dX1_loadOfSet_35 : decode cX1_loadOfSet 35 = .ok (.aload_n 0, 1) := by decide +kernel
theorem dX1_loadOfSet_36 : decode cX1_loadOfSet 36 = .ok (.iload 6, 2) := by decide +kernel
theorem dX1_loadOfSet_38 : decode cX1_loadOfSet 38 = .ok (.iload_n 1, 1) := by decide +kernel
theorem dX1_loadOfSet_39 : decode cX1_loadOfSet 39 = .ok (.iload 4, 2) := by decide +kernel
theorem dX1_loadOfSet_41 : decode cX1_loadOfSet 41 = .ok (.iload_n 3, 1) := by decide +kernel
theorem dX1_loadOfSet_42 : decode cX1_loadOfSet 42 = .ok (.invokevirtual 62, 3) := by decide +kernel
theorem dX1_loadOfSet_45 : decode cX1_loadOfSet 45 = .ok (.iadd, 1) := by decide +kernel
theorem dX1_loadOfSet_46 : decode cX1_loadOfSet 46 = .ok (.istore 5, 2) := by decide +kernel
theorem dX1_loadOfSet_48 : decode cX1_loadOfSet 48 = .ok (.iinc 6 1, 3) := by decide +kernel
theorem dX1_loadOfSet_51 : decode cX1_loadOfSet 51 = .ok (.goto (-37), 3) := by decide +kernel
theorem dX1_loadOfSet_54 : decode cX1_loadOfSet 54 = .ok (.iload 5, 2) := by decide +kernel
theorem dX1_loadOfSet_56 : decode cX1_loadOfSet 56 = .ok (.ireturn, 1) := by decide +kernel
set_option maxRecDepth 20000 in
theorem ggX1_loadOn_X1_wornBy : GoodIn wsX1_loadOn wsX1_wornBy := goodIn_r _ [5, 6, 7, 8, 9, 4, 10, 11, 30, 31, 32, 33, 34, 35, 36, 37, 38, 39] (by decide +kernel) (by decide +kernel)
set_option maxRecDepth 20000 in
theorem gX1_loadOn_X1_wornBy : GoodIn wsX1_loadOn (wsV RX1 53 RX1 yX1_wornBy wsX1_wornBy) := goodIn_app (goodIn_of _ (by decide +kernel)) ggX1_loadOn_X1_wornBy
set_option maxRecDepth 20000 in
theorem ggX1_loadOn_X1_loadOfSet : GoodIn wsX1_loadOn wsX1_loadOfSet := goodIn_r _ [15, 11, 16, 17, 18, 19, 20, 21, 22, 23, 24, 25, 4, 26, 27, 28, 29, 30, 31, 32, 33, 34, 35, 36, 37, 38, 39] (by decide +kernel) (by decide +kernel)
set_option maxRecDepth 20000 in
theorem gX1_loadOn_X1_loadOfSet : GoodIn wsX1_loadOn (wsV RX1 66 RX1 yX1_loadOfSet wsX1_loadOfSet) := goodIn_app (goodIn_of _ (by decide +kernel)) ggX1_loadOn_X1_loadOfSet
theorem dX1_loadOn_0 : decode cX1_loadOn 0 = .ok (.aload_n 0, 1) := by decide +kernel
theorem dX1_loadOn_1 : decode cX1_loadOn 1 = .ok (.iload_n 1, 1) := by decide +kernel
theorem dX1_loadOn_2 : decode cX1_loadOn 2 = .ok (.aload_n 0, 1) := by decide +kernel
theorem dX1_loadOn_3 : decode cX1_loadOn 3 = .ok (.iload_n 1, 1) := by decide +kernel
theorem dX1_loadOn_4 : decode cX1_loadOn 4 = .ok (.invokevirtual 53, 3) := by decide +kernel
theorem dX1_loadOn_7 : decode cX1_loadOn 7 = .ok (.iload_n 2, 1) := by decide +kernel
theorem dX1_loadOn_8 : decode cX1_loadOn 8 = .ok (.invokevirtual 66, 3) := by decide +kernel
theorem dX1_loadOn_11 : decode cX1_loadOn 11 = .ok (.ireturn, 1) := by decide +kernel
set_option maxRecDepth 20000 in
theorem ggX1_isBent_X1_loadOn : GoodIn wsX1_isBent wsX1_loadOn := goodIn_r _ [7, 8, 9, 10, 6, 11, 12, 13, 14, 15, 16, 17, 18, 19, 20, 21, 22, 23, 24, 25, 26, 27, 28, 29, 30, 31, 32, 33, 34, 35, 36, 37, 38, 39, 40, 41, 42, 43, 44, 45] (by decide +kernel) (by decide +kernel)
set_option maxRecDepth 20000 in
theorem gX1_isBent_X1_loadOn : GoodIn wsX1_isBent (wsV RX1 70 RX1 yX1_loadOn wsX1_loadOn) := goodIn_app (goodIn_of _ (by decide +kernel)) ggX1_isBent_X1_loadOn
theorem dX1_isBent_0 : decode cX1_isBent 0 = .ok (.aload_n 0, 1) := by decide +kernel
theorem dX1_isBent_1 : decode cX1_isBent 1 = .ok (.iload_n 1, 1) := by decide +kernel
theorem dX1_isBent_2 : decode cX1_isBent 2 = .ok (.aload_n 0, 1) := by decide +kernel
theorem dX1_isBent_3 : decode cX1_isBent 3 = .ok (.getfield 37, 3) := by decide +kernel
theorem dX1_isBent_6 : decode cX1_isBent 6 = .ok (.invokevirtual 70, 3) := by decide +kernel
theorem dX1_isBent_9 : decode cX1_isBent 9 = .ok (.aload_n 0, 1) := by decide +kernel
theorem dX1_isBent_10 : decode cX1_isBent 10 = .ok (.getfield 19, 3) := by decide +kernel
theorem dX1_isBent_13 : decode cX1_isBent 13 = .ok (.iload_n 1, 1) := by decide +kernel
theorem dX1_isBent_14 : decode cX1_isBent 14 = .ok (.iaload, 1) := by decide +kernel
theorem dX1_isBent_15 : decode cX1_isBent 15 = .ok (.if_icmp .le 7, 3) := by decide +kernel
theorem dX1_isBent_18 : decode cX1_isBent 18 = .ok (.iconst 1, 1) := by decide +kernel
theorem dX1_isBent_19 : decode cX1_isBent 19 = .ok (.goto 4, 3) := by decide +kernel
theorem dX1_isBent_22 : decode cX1_isBent 22 = .ok (.iconst 0, 1) := by decide +kernel
theorem dX1_isBent_23 : decode cX1_isBent 23 = .ok (.ireturn, 1) := by decide +kernel
theorem dX1_allStrength_0 : decode cX1_allStrength 0 = .ok (.iconst 0, 1) := by decide +kernel
theorem dX1_allStrength_1 : decode cX1_allStrength 1 = .ok (.istore_n 1, 1) := by decide +kernel
theorem dX1_allStrength_2 : decode cX1_allStrength 2 = .ok (.iconst 0, 1) := by decide +kernel
theorem dX1_allStrength_3 : decode cX1_allStrength 3 = .ok (.istore_n 2, 1) := by decide +kernel
theorem dX1_allStrength_4 : decode cX1_allStrength 4 = .ok (.iload_n 2, 1) := by decide +kernel
theorem dX1_allStrength_5 : decode cX1_allStrength 5 = .ok (.aload_n 0, 1) := by decide +kernel
theorem dX1_allStrength_6 : decode cX1_allStrength 6 = .ok (.getfield 9, 3) := by decide +kernel
theorem dX1_allStrength_9 : decode cX1_allStrength 9 = .ok (.if_icmp .ge 18, 3) := by decide +kernel
theorem dX1_allStrength_12 : decode cX1_allStrength 12 = .ok (.iload_n 1, 1) := by decide +kernel
theorem dX1_allStrength_13 : decode cX1_allStrength 13 = .ok (.aload_n 0, 1) := by decide +kernel
theorem dX1_allStrength_14 : decode cX1_allStrength 14 = .ok (.getfield 19, 3) := by decide +kernel
theorem dX1_allStrength_17 : decode cX1_allStrength 17 = .ok (.iload_n 2, 1) := by decide +kernel
theorem dX1_allStrength_18 : decode cX1_allStrength 18 = .ok (.iaload, 1) := by decide +kernel
theorem dX1_allStrength_19 : decode cX1_allStrength 19 = .ok (.iadd, 1) := by decide +kernel
theorem dX1_allStrength_20 : decode cX1_allStrength 20 = .ok (.istore_n 1, 1) := by decide +kernel
theorem dX1_allStrength_21 : decode cX1_allStrength 21 = .ok (.iinc 2 1, 3) := by decide +kernel
theorem dX1_allStrength_24 : decode cX1_allStrength 24 = .ok (.goto (-20), 3) := by decide +kernel
theorem dX1_allStrength_27 : decode cX1_allStrength 27 = .ok (.iload_n 1, 1) := by decide +kernel
theorem dX1_allStrength_28 : decode cX1_allStrength 28 = .ok (.ireturn, 1) := by decide +kernel
set_option maxRecDepth 20000 in
theorem ggX1_allLoads_X1_loadOn : GoodIn wsX1_allLoads wsX1_loadOn := goodIn_r _ [7, 8, 9, 10, 6, 11, 12, 13, 14, 15, 16, 17, 18, 19, 20, 21, 22, 23, 24, 25, 26, 27, 28, 29, 30, 31, 32, 33, 34, 35, 36, 37, 38, 39, 40, 41, 42, 43, 44, 45] (by decide +kernel) (by decide +kernel)
set_option maxRecDepth 20000 in
theorem gX1_allLoads_X1_loadOn : GoodIn wsX1_allLoads (wsV RX1 70 RX1 yX1_loadOn wsX1_loadOn) := goodIn_app (goodIn_of _ (by decide +kernel)) ggX1_allLoads_X1_loadOn
theorem dX1_allLoads_0 : decode cX1_allLoads 0 = .ok (.iconst 0, 1) := by decide +kernel
theorem dX1_allLoads_1 : decode cX1_allLoads 1 = .ok (.istore_n 1, 1) := by decide +kernel
theorem dX1_allLoads_2 : decode cX1_allLoads 2 = .ok (.iconst 0, 1) := by decide +kernel
theorem dX1_allLoads_3 : decode cX1_allLoads 3 = .ok (.istore_n 2, 1) := by decide +kernel
theorem dX1_allLoads_4 : decode cX1_allLoads 4 = .ok (.iload_n 2, 1) := by decide +kernel
theorem dX1_allLoads_5 : decode cX1_allLoads 5 = .ok (.aload_n 0, 1) := by decide +kernel
theorem dX1_allLoads_6 : decode cX1_allLoads 6 = .ok (.getfield 9, 3) := by decide +kernel
theorem dX1_allLoads_9 : decode cX1_allLoads 9 = .ok (.if_icmp .ge 21, 3) := by decide +kernel
theorem dX1_allLoads_12 : decode cX1_allLoads 12 = .ok (.iload_n 1, 1) := by decide +kernel
theorem dX1_allLoads_13 : decode cX1_allLoads 13 = .ok (.aload_n 0, 1) := by decide +kernel
theorem dX1_allLoads_14 : decode cX1_allLoads 14 = .ok (.iload_n 2, 1) := by decide +kernel
theorem dX1_allLoads_15 : decode cX1_allLoads 15 = .ok (.aload_n 0, 1) := by decide +kernel
theorem dX1_allLoads_16 : decode cX1_allLoads 16 = .ok (.getfield 37, 3) := by decide +kernel
theorem dX1_allLoads_19 : decode cX1_allLoads 19 = .ok (.invokevirtual 70, 3) := by decide +kernel
theorem dX1_allLoads_22 : decode cX1_allLoads 22 = .ok (.iadd, 1) := by decide +kernel
theorem dX1_allLoads_23 : decode cX1_allLoads 23 = .ok (.istore_n 1, 1) := by decide +kernel
theorem dX1_allLoads_24 : decode cX1_allLoads 24 = .ok (.iinc 2 1, 3) := by decide +kernel
theorem dX1_allLoads_27 : decode cX1_allLoads 27 = .ok (.goto (-23), 3) := by decide +kernel
theorem dX1_allLoads_30 : decode cX1_allLoads 30 = .ok (.iload_n 1, 1) := by decide +kernel
theorem dX1_allLoads_31 : decode cX1_allLoads 31 = .ok (.ireturn, 1) := by decide +kernel
set_option maxRecDepth 20000 in
theorem ggX1_strengthAfter_X1_loadOn : GoodIn wsX1_strengthAfter wsX1_loadOn := goodIn_r _ [6, 7, 8, 9, 5, 10, 11, 12, 13, 14, 15, 16, 17, 18, 19, 20, 21, 22, 23, 24, 25, 26, 27, 28, 29, 30, 31, 32, 33, 34, 45, 46, 47, 48, 49, 50, 51, 52, 53, 54] (by decide +kernel) (by decide +kernel)
set_option maxRecDepth 20000 in
theorem gX1_strengthAfter_X1_loadOn : GoodIn wsX1_strengthAfter (wsV RX1 70 RX1 yX1_loadOn wsX1_loadOn) := goodIn_app (goodIn_of _ (by decide +kernel)) ggX1_strengthAfter_X1_loadOn
set_option maxRecDepth 20000 in
theorem ggX1_strengthAfter_X5_strengthNext : GoodIn wsX1_strengthAfter wsX5_strengthNext := goodIn_r _ [37, 38, 39, 40, 41, 42, 43, 44] (by decide +kernel) (by decide +kernel)
set_option maxRecDepth 20000 in
theorem gX1_strengthAfter_X5_strengthNext_n74 : GoodIn wsX1_strengthAfter (wsX5_strengthNext) := ggX1_strengthAfter_X5_strengthNext
theorem dX1_strengthAfter_0 : decode cX1_strengthAfter 0 = .ok (.iload_n 2, 1) := by decide +kernel
theorem dX1_strengthAfter_1 : decode cX1_strengthAfter 1 = .ok (.aload_n 0, 1) := by decide +kernel
theorem dX1_strengthAfter_2 : decode cX1_strengthAfter 2 = .ok (.getfield 15, 3) := by decide +kernel
theorem dX1_strengthAfter_5 : decode cX1_strengthAfter 5 = .ok (.iload_n 1, 1) := by decide +kernel
theorem dX1_strengthAfter_6 : decode cX1_strengthAfter 6 = .ok (.iaload, 1) := by decide +kernel
theorem dX1_strengthAfter_7 : decode cX1_strengthAfter 7 = .ok (.aload_n 0, 1) := by decide +kernel
theorem dX1_strengthAfter_8 : decode cX1_strengthAfter 8 = .ok (.iload_n 1, 1) := by decide +kernel
theorem dX1_strengthAfter_9 : decode cX1_strengthAfter 9 = .ok (.iload_n 3, 1) := by decide +kernel
theorem dX1_strengthAfter_10 : decode cX1_strengthAfter 10 = .ok (.invokevirtual 70, 3) := by decide +kernel
theorem dX1_strengthAfter_13 : decode cX1_strengthAfter 13 = .ok (.invokestatic 74, 3) := by decide +kernel
theorem dX1_strengthAfter_16 : decode cX1_strengthAfter 16 = .ok (.ireturn, 1) := by decide +kernel
set_option maxRecDepth 20000 in
theorem ggX1_strengthBehind_X1_strengthAfter : GoodIn wsX1_strengthBehind wsX1_strengthAfter := goodIn_r _ [7, 8, 9, 10, 11, 6, 12, 13, 14, 15, 16, 17, 18, 19, 20, 21, 22, 23, 24, 25, 26, 27, 28, 29, 30, 31, 32, 33, 34, 35, 36, 37, 38, 39, 40, 41, 42, 43, 44, 45, 46, 47, 48, 49, 50, 51, 52, 53, 54, 55, 56, 57, 58, 59, 60] (by decide +kernel) (by decide +kernel)
set_option maxRecDepth 20000 in
theorem gX1_strengthBehind_X1_strengthAfter : GoodIn wsX1_strengthBehind (wsV RX1 77 RX1 yX1_strengthAfter wsX1_strengthAfter) := goodIn_app (goodIn_of _ (by decide +kernel)) ggX1_strengthBehind_X1_strengthAfter
theorem dX1_strengthBehind_0 : decode cX1_strengthBehind 0 = .ok (.aload_n 0, 1) := by decide +kernel
theorem dX1_strengthBehind_1 : decode cX1_strengthBehind 1 = .ok (.getfield 19, 3) := by decide +kernel
theorem dX1_strengthBehind_4 : decode cX1_strengthBehind 4 = .ok (.iload_n 1, 1) := by decide +kernel
theorem dX1_strengthBehind_5 : decode cX1_strengthBehind 5 = .ok (.iaload, 1) := by decide +kernel
theorem dX1_strengthBehind_6 : decode cX1_strengthBehind 6 = .ok (.istore_n 3, 1) := by decide +kernel
theorem dX1_strengthBehind_7 : decode cX1_strengthBehind 7 = .ok (.iconst 0, 1) := by decide +kernel
theorem dX1_strengthBehind_8 : decode cX1_strengthBehind 8 = .ok (.istore 4, 2) := by decide +kernel
theorem dX1_strengthBehind_10 : decode cX1_strengthBehind 10 = .ok (.iload 4, 2) := by decide +kernel
theorem dX1_strengthBehind_12 : decode cX1_strengthBehind 12 = .ok (.iload_n 2, 1) := by decide +kernel
theorem dX1_strengthBehind_13 : decode cX1_strengthBehind 13 = .ok (.if_icmp .ge 23, 3) := by decide +kernel
theorem dX1_strengthBehind_16 : decode cX1_strengthBehind 16 = .ok (.aload_n 0, 1) := by decide +kernel
theorem dX1_strengthBehind_17 : decode cX1_strengthBehind 17 = .ok (.iload_n 1, 1) := by decide +kernel
theorem dX1_strengthBehind_18 : decode cX1_strengthBehind 18 = .ok (.iload_n 3, 1) := by decide +kernel
theorem dX1_strengthBehind_19 : decode cX1_strengthBehind 19 = .ok (.aload_n 0, 1) := by decide +kernel
theorem dX1_strengthBehind_20 : decode cX1_strengthBehind 20 = .ok (.getfield 37, 3) := by decide +kernel
theorem dX1_strengthBehind_23 : decode cX1_strengthBehind 23 = .ok (.iload 4, 2) := by decide +kernel
theorem dX1_strengthBehind_25 : decode cX1_strengthBehind 25 = .ok (.iadd, 1) := by decide +kernel
theorem dX1_strengthBehind_26 : decode cX1_strengthBehind 26 = .ok (.invokevirtual 77, 3) := by decide +kernel
theorem dX1_strengthBehind_29 : decode cX1_strengthBehind 29 = .ok (.istore_n 3, 1) := by decide +kernel
theorem dX1_strengthBehind_30 : decode cX1_strengthBehind 30 = .ok (.iinc 4 1, 3) := by decide +kernel
theorem dX1_strengthBehind_33 : decode cX1_strengthBehind 33 = .ok (.goto (-23), 3) := by decide +kernel
theorem dX1_strengthBehind_36 : decode cX1_strengthBehind 36 = .ok (.iload_n 3, 1) := by decide +kernel
theorem dX1_strengthBehind_37 : decode cX1_strengthBehind 37 = .ok (.ireturn, 1) := by decide +kernel
set_option maxRecDepth 20000 in
theorem ggX1_allBent_X1_isBent : GoodIn wsX1_allBent wsX1_isBent := goodIn_r _ [6, 7, 8, 9, 10, 11, 5, 12, 13, 14, 15, 16, 17, 18, 19, 20, 21, 22, 23, 24, 25, 26, 27, 28, 29, 30, 31, 32, 33, 34, 35, 36, 37, 38, 39, 40, 41, 42, 43, 44, 45, 46, 47, 48, 49, 50] (by decide +kernel) (by decide +kernel)
set_option maxRecDepth 20000 in
theorem gX1_allBent_X1_isBent : GoodIn wsX1_allBent (wsV RX1 80 RX1 yX1_isBent wsX1_isBent) := goodIn_app (goodIn_of _ (by decide +kernel)) ggX1_allBent_X1_isBent
theorem dX1_allBent_0 : decode cX1_allBent 0 = .ok (.iconst 0, 1) := by decide +kernel
theorem dX1_allBent_1 : decode cX1_allBent 1 = .ok (.istore_n 1, 1) := by decide +kernel
theorem dX1_allBent_2 : decode cX1_allBent 2 = .ok (.iconst 0, 1) := by decide +kernel
theorem dX1_allBent_3 : decode cX1_allBent 3 = .ok (.istore_n 2, 1) := by decide +kernel
theorem dX1_allBent_4 : decode cX1_allBent 4 = .ok (.iload_n 2, 1) := by decide +kernel
theorem dX1_allBent_5 : decode cX1_allBent 5 = .ok (.aload_n 0, 1) := by decide +kernel
theorem dX1_allBent_6 : decode cX1_allBent 6 = .ok (.getfield 9, 3) := by decide +kernel
theorem dX1_allBent_9 : decode cX1_allBent 9 = .ok (.if_icmp .ge 23, 3) := by decide +kernel
theorem dX1_allBent_12 : decode cX1_allBent 12 = .ok (.aload_n 0, 1) := by decide +kernel
theorem dX1_allBent_13 : decode cX1_allBent 13 = .ok (.iload_n 2, 1) := by decide +kernel
theorem dX1_allBent_14 : decode cX1_allBent 14 = .ok (.invokevirtual 80, 3) := by decide +kernel
theorem dX1_allBent_17 : decode cX1_allBent 17 = .ok (.ifCond .eq 9, 3) := by decide +kernel
theorem dX1_allBent_20 : decode cX1_allBent 20 = .ok (.iload_n 1, 1) := by decide +kernel
theorem dX1_allBent_21 : decode cX1_allBent 21 = .ok (.iconst 1, 1) := by decide +kernel
theorem dX1_allBent_22 : decode cX1_allBent 22 = .ok (.iload_n 2, 1) := by decide +kernel
theorem dX1_allBent_23 : decode cX1_allBent 23 = .ok (.ishl, 1) := by decide +kernel
theorem dX1_allBent_24 : decode cX1_allBent 24 = .ok (.ior, 1) := by decide +kernel
theorem dX1_allBent_25 : decode cX1_allBent 25 = .ok (.istore_n 1, 1) := by decide +kernel
theorem dX1_allBent_26 : decode cX1_allBent 26 = .ok (.iinc 2 1, 3) := by decide +kernel
theorem dX1_allBent_29 : decode cX1_allBent 29 = .ok (.goto (-25), 3) := by decide +kernel
theorem dX1_allBent_32 : decode cX1_allBent 32 = .ok (.iload_n 1, 1) := by decide +kernel
theorem dX1_allBent_33 : decode cX1_allBent 33 = .ok (.ireturn, 1) := by decide +kernel
set_option maxRecDepth 20000 in
theorem ggX1_bentBehind_X1_loadOn : GoodIn wsX1_bentBehind wsX1_loadOn := goodIn_r _ [7, 8, 9, 10, 6, 11, 12, 13, 14, 15, 16, 17, 18, 19, 20, 21, 22, 23, 24, 25, 26, 27, 28, 29, 30, 31, 32, 33, 34, 35, 56, 57, 58, 59, 60, 61, 62, 63, 64, 65] (by decide +kernel) (by decide +kernel)
set_option maxRecDepth 20000 in
theorem gX1_bentBehind_X1_loadOn : GoodIn wsX1_bentBehind (wsV RX1 70 RX1 yX1_loadOn wsX1_loadOn) := goodIn_app (goodIn_of _ (by decide +kernel)) ggX1_bentBehind_X1_loadOn
set_option maxRecDepth 20000 in
theorem ggX1_bentBehind_X1_strengthBehind : GoodIn wsX1_bentBehind wsX1_strengthBehind := goodIn_r _ [39, 40, 2, 41, 42, 43, 6, 44, 45, 3, 4, 5, 7, 8, 9, 10, 11, 12, 13, 14, 15, 16, 17, 18, 19, 20, 21, 22, 23, 24, 25, 26, 27, 28, 29, 30, 31, 32, 33, 34, 35, 46, 47, 48, 49, 50, 51, 52, 53, 54, 55, 56, 57, 58, 59, 60, 61, 62, 63, 64, 65] (by decide +kernel) (by decide +kernel)
set_option maxRecDepth 20000 in
theorem gX1_bentBehind_X1_strengthBehind : GoodIn wsX1_bentBehind (wsV RX1 84 RX1 yX1_strengthBehind wsX1_strengthBehind) := goodIn_app (goodIn_of _ (by decide +kernel)) ggX1_bentBehind_X1_strengthBehind
theorem dX1_bentBehind_0 : decode cX1_bentBehind 0 = .ok (.iconst 0, 1) := by decide +kernel
theorem dX1_bentBehind_1 : decode cX1_bentBehind 1 = .ok (.istore_n 2, 1) := by decide +kernel
theorem dX1_bentBehind_2 : decode cX1_bentBehind 2 = .ok (.iconst 0, 1) := by decide +kernel
theorem dX1_bentBehind_3 : decode cX1_bentBehind 3 = .ok (.istore_n 3, 1) := by decide +kernel
theorem dX1_bentBehind_4 : decode cX1_bentBehind 4 = .ok (.iload_n 3, 1) := by decide +kernel
theorem dX1_bentBehind_5 : decode cX1_bentBehind 5 = .ok (.aload_n 0, 1) := by decide +kernel
theorem dX1_bentBehind_6 : decode cX1_bentBehind 6 = .ok (.getfield 9, 3) := by decide +kernel
theorem dX1_bentBehind_9 : decode cX1_bentBehind 9 = .ok (.if_icmp .ge 35, 3) := by decide +kernel
theorem dX1_bentBehind_12 : decode cX1_bentBehind 12 = .ok (.aload_n 0, 1) := by decide +kernel
theorem dX1_bentBehind_13 : decode cX1_bentBehind 13 = .ok (.iload_n 3, 1) := by decide +kernel
theorem dX1_bentBehind_14 : decode cX1_bentBehind 14 = .ok (.aload_n 0, 1) := by decide +kernel
theorem dX1_bentBehind_15 : decode cX1_bentBehind 15 = .ok (.getfield 37, 3) := by decide +kernel
theorem dX1_bentBehind_18 : decode cX1_bentBehind 18 = .ok (.iload_n 1, 1) := by decide +kernel
theorem dX1_bentBehind_19 : decode cX1_bentBehind 19 = .ok (.iadd, 1) := by decide +kernel
theorem dX1_bentBehind_20 : decode cX1_bentBehind 20 = .ok (.invokevirtual 70, 3) := by decide +kernel
theorem dX1_bentBehind_23 : decode cX1_bentBehind 23 = .ok (.aload_n 0, 1) := by decide +kernel
theorem dX1_bentBehind_24 : decode cX1_bentBehind 24 = .ok (.iload_n 3, 1) := by decide +kernel
theorem dX1_bentBehind_25 : decode cX1_bentBehind 25 = .ok (.iload_n 1, 1) := by decide +kernel
theorem dX1_bentBehind_26 : decode cX1_bentBehind 26 = .ok (.invokevirtual 84, 3) := by decide +kernel
theorem dX1_bentBehind_29 : decode cX1_bentBehind 29 = .ok (.if_icmp .le 9, 3) := by decide +kernel
theorem dX1_bentBehind_32 : decode cX1_bentBehind 32 = .ok (.iload_n 2, 1) := by decide +kernel
theorem dX1_bentBehind_33 : decode cX1_bentBehind 33 = .ok (.iconst 1, 1) := by decide +kernel
theorem dX1_bentBehind_34 : decode cX1_bentBehind 34 = .ok (.iload_n 3, 1) := by decide +kernel
theorem dX1_bentBehind_35 : decode cX1_bentBehind 35 = .ok (.ishl, 1) := by decide +kernel
theorem dX1_bentBehind_36 : decode cX1_bentBehind 36 = .ok (.ior, 1) := by decide +kernel
theorem dX1_bentBehind_37 : decode cX1_bentBehind 37 = .ok (.istore_n 2, 1) := by decide +kernel
theorem dX1_bentBehind_38 : decode cX1_bentBehind 38 = .ok (.iinc 3 1, 3) := by decide +kernel
theorem dX1_bentBehind_41 : decode cX1_bentBehind 41 = .ok (.goto (-37), 3) := by decide +kernel
theorem dX1_bentBehind_44 : decode cX1_bentBehind 44 = .ok (.iload_n 2, 1) := by decide +kernel
theorem dX1_bentBehind_45 : decode cX1_bentBehind 45 = .ok (.ireturn, 1) := by decide +kernel
set_option maxRecDepth 20000 in
theorem ggX1_isBentWithin_X1_loadOn : GoodIn wsX1_isBentWithin wsX1_loadOn := goodIn_r _ [7, 8, 9, 10, 6, 11, 12, 13, 14, 15, 16, 17, 18, 19, 20, 21, 22, 23, 24, 25, 26, 27, 28, 29, 30, 31, 32, 33, 34, 35, 51, 52, 53, 54, 55, 56, 57, 58, 59, 60] (by decide +kernel) (by decide +kernel)
set_option maxRecDepth 20000 in
theorem gX1_isBentWithin_X1_loadOn : GoodIn wsX1_isBentWithin (wsV RX1 70 RX1 yX1_loadOn wsX1_loadOn) := goodIn_app (goodIn_of _ (by decide +kernel)) ggX1_isBentWithin_X1_loadOn
set_option maxRecDepth 20000 in
theorem ggX1_isBentWithin_X1_strengthAfter : GoodIn wsX1_isBentWithin wsX1_strengthAfter := goodIn_r _ [39, 40, 3, 4, 5, 6, 7, 8, 9, 10, 11, 12, 13, 14, 15, 16, 17, 18, 19, 20, 21, 22, 23, 24, 25, 26, 27, 28, 29, 30, 31, 32, 33, 34, 35, 41, 42, 43, 44, 45, 46, 47, 48, 49, 50, 51, 52, 53, 54, 55, 56, 57, 58, 59, 60] (by decide +kernel) (by decide +kernel)
set_option maxRecDepth 20000 in
theorem gX1_isBentWithin_X1_strengthAfter : GoodIn wsX1_isBentWithin (wsV RX1 77 RX1 yX1_strengthAfter wsX1_strengthAfter) := goodIn_app (goodIn_of _ (by decide +kernel)) ggX1_isBentWithin_X1_strengthAfter
theorem dX1_isBentWithin_0 : decode cX1_isBentWithin 0 = .ok (.aload_n 0, 1) := by decide +kernel
theorem dX1_isBentWithin_1 : decode cX1_isBentWithin 1 = .ok (.getfield 19, 3) := by decide +kernel
theorem dX1_isBentWithin_4 : decode cX1_isBentWithin 4 = .ok (.iload_n 1, 1) := by decide +kernel
theorem dX1_isBentWithin_5 : decode cX1_isBentWithin 5 = .ok (.iaload, 1) := by decide +kernel
theorem dX1_isBentWithin_6 : decode cX1_isBentWithin 6 = .ok (.istore_n 3, 1) := by decide +kernel
theorem dX1_isBentWithin_7 : decode cX1_isBentWithin 7 = .ok (.iconst 0, 1) := by decide +kernel
theorem dX1_isBentWithin_8 : decode cX1_isBentWithin 8 = .ok (.istore 4, 2) := by decide +kernel
theorem dX1_isBentWithin_10 : decode cX1_isBentWithin 10 = .ok (.iload 4, 2) := by decide +kernel
theorem dX1_isBentWithin_12 : decode cX1_isBentWithin 12 = .ok (.iload_n 2, 1) := by decide +kernel
theorem dX1_isBentWithin_13 : decode cX1_isBentWithin 13 = .ok (.if_icmp .gt 41, 3) := by decide +kernel
theorem dX1_isBentWithin_16 : decode cX1_isBentWithin 16 = .ok (.aload_n 0, 1) := by decide +kernel
theorem dX1_isBentWithin_17 : decode cX1_isBentWithin 17 = .ok (.iload_n 1, 1) := by decide +kernel
theorem dX1_isBentWithin_18 : decode cX1_isBentWithin 18 = .ok (.aload_n 0, 1) := by decide +kernel
theorem dX1_isBentWithin_19 : decode cX1_isBentWithin 19 = .ok (.getfield 37, 3) := by decide +kernel
theorem dX1_isBentWithin_22 : decode cX1_isBentWithin 22 = .ok (.iload 4, 2) := by decide +kernel
theorem dX1_isBentWithin_24 : decode cX1_isBentWithin 24 = .ok (.iadd, 1) := by decide +kernel
theorem dX1_isBentWithin_25 : decode cX1_isBentWithin 25 = .ok (.invokevirtual 70, 3) := by decide +kernel
theorem dX1_isBentWithin_28 : decode cX1_isBentWithin 28 = .ok (.iload_n 3, 1) := by decide +kernel
theorem dX1_isBentWithin_29 : decode cX1_isBentWithin 29 = .ok (.if_icmp .le 5, 3) := by decide +kernel
theorem dX1_isBentWithin_32 : decode cX1_isBentWithin 32 = .ok (.iconst 1, 1) := by decide +kernel
theorem dX1_isBentWithin_33 : decode cX1_isBentWithin 33 = .ok (.ireturn, 1) := by decide +kernel
theorem dX1_isBentWithin_34 : decode cX1_isBentWithin 34 = .ok (.aload_n 0, 1) := by decide +kernel
theorem dX1_isBentWithin_35 : decode cX1_isBentWithin 35 = .ok (.iload_n 1, 1) := by decide +kernel
theorem dX1_isBentWithin_36 : decode cX1_isBentWithin 36 = .ok (.iload_n 3, 1) := by decide +kernel
theorem dX1_isBentWithin_37 : decode cX1_isBentWithin 37 = .ok (.aload_n 0, 1) := by decide +kernel
theorem dX1_isBentWithin_38 : decode cX1_isBentWithin 38 = .ok (.getfield 37, 3) := by decide +kernel
theorem dX1_isBentWithin_41 : decode cX1_isBentWithin 41 = .ok (.iload 4, 2) := by decide +kernel
theorem dX1_isBentWithin_43 : decode cX1_isBentWithin 43 = .ok (.iadd, 1) := by decide +kernel
theorem dX1_isBentWithin_44 : decode cX1_isBentWithin 44 = .ok (.invokevirtual 77, 3) := by decide +kernel
theorem dX1_isBentWithin_47 : decode cX1_isBentWithin 47 = .ok (.istore_n 3, 1) := by decide +kernel
theorem dX1_isBentWithin_48 : decode cX1_isBentWithin 48 = .ok (.iinc 4 1, 3) := by decide +kernel
theorem dX1_isBentWithin_51 : decode cX1_isBentWithin 51 = .ok (.goto (-41), 3) := by decide +kernel
theorem dX1_isBentWithin_54 : decode cX1_isBentWithin 54 = .ok (.iconst 0, 1) := by decide +kernel
theorem dX1_isBentWithin_55 : decode cX1_isBentWithin 55 = .ok (.ireturn, 1) := by decide +kernel
theorem dX1_wornByTwo_0 : decode cX1_wornByTwo 0 = .ok (.aload_n 0, 1) := by decide +kernel
theorem dX1_wornByTwo_1 : decode cX1_wornByTwo 1 = .ok (.getfield 34, 3) := by decide +kernel
theorem dX1_wornByTwo_4 : decode cX1_wornByTwo 4 = .ok (.iload_n 1, 1) := by decide +kernel
theorem dX1_wornByTwo_5 : decode cX1_wornByTwo 5 = .ok (.iaload, 1) := by decide +kernel
theorem dX1_wornByTwo_6 : decode cX1_wornByTwo 6 = .ok (.bipush (-4), 2) := by decide +kernel
theorem dX1_wornByTwo_8 : decode cX1_wornByTwo 8 = .ok (.if_icmp .eq 33, 3) := by decide +kernel
theorem dX1_wornByTwo_11 : decode cX1_wornByTwo 11 = .ok (.aload_n 0, 1) := by decide +kernel
theorem dX1_wornByTwo_12 : decode cX1_wornByTwo 12 = .ok (.getfield 34, 3) := by decide +kernel
theorem dX1_wornByTwo_15 : decode cX1_wornByTwo 15 = .ok (.iload_n 2, 1) := by decide +kernel
theorem dX1_wornByTwo_16 : decode cX1_wornByTwo 16 = .ok (.iaload, 1) := by decide +kernel
theorem dX1_wornByTwo_17 : decode cX1_wornByTwo 17 = .ok (.bipush (-4), 2) := by decide +kernel
theorem dX1_wornByTwo_19 : decode cX1_wornByTwo 19 = .ok (.if_icmp .eq 22, 3) := by decide +kernel
theorem dX1_wornByTwo_22 : decode cX1_wornByTwo 22 = .ok (.aload_n 0, 1) := by decide +kernel
theorem dX1_wornByTwo_23 : decode cX1_wornByTwo 23 = .ok (.getfield 34, 3) := by decide +kernel
theorem dX1_wornByTwo_26 : decode cX1_wornByTwo 26 = .ok (.iload_n 1, 1) := by decide +kernel
theorem dX1_wornByTwo_27 : decode cX1_wornByTwo 27 = .ok (.iaload, 1) := by decide +kernel
theorem dX1_wornByTwo_28 : decode cX1_wornByTwo 28 = .ok (.aload_n 0, 1) := by decide +kernel
theorem dX1_wornByTwo_29 : decode cX1_wornByTwo 29 = .ok (.getfield 34, 3) := by decide +kernel
theorem dX1_wornByTwo_32 : decode cX1_wornByTwo 32 = .ok (.iload_n 2, 1) := by decide +kernel
theorem dX1_wornByTwo_33 : decode cX1_wornByTwo 33 = .ok (.iaload, 1) := by decide +kernel
theorem dX1_wornByTwo_34 : decode cX1_wornByTwo 34 = .ok (.if_icmp .eq 7, 3) := by decide +kernel
theorem dX1_wornByTwo_37 : decode cX1_wornByTwo 37 = .ok (.iconst 1, 1) := by decide +kernel
theorem dX1_wornByTwo_38 : decode cX1_wornByTwo 38 = .ok (.goto 4, 3) := by decide +kernel
theorem dX1_wornByTwo_41 : decode cX1_wornByTwo 41 = .ok (.iconst 0, 1) := by decide +kernel
theorem dX1_wornByTwo_42 : decode cX1_wornByTwo 42 = .ok (.ireturn, 1) := by decide +kernel
set_option maxRecDepth 20000 in
theorem ggX1_loadsIfChanged_X1_wornBy : GoodIn wsX1_loadsIfChanged wsX1_wornBy := goodIn_r _ [7, 1, 8, 9, 10, 6, 11, 12, 31, 32, 33, 34, 35, 36, 37, 38, 39, 40] (by decide +kernel) (by decide +kernel)
set_option maxRecDepth 20000 in
theorem gX1_loadsIfChanged_X1_wornBy : GoodIn wsX1_loadsIfChanged (wsV RX1 53 RX1 yX1_wornBy wsX1_wornBy) := goodIn_app (goodIn_of _ (by decide +kernel)) ggX1_loadsIfChanged_X1_wornBy
set_option maxRecDepth 20000 in
theorem ggX1_loadsIfChanged_X1_loadOfSet : GoodIn wsX1_loadsIfChanged wsX1_loadOfSet := goodIn_r _ [16, 12, 17, 18, 19, 20, 21, 22, 23, 24, 25, 26, 6, 27, 28, 29, 30, 31, 32, 33, 34, 35, 36, 37, 38, 39, 40] (by decide +kernel) (by decide +kernel)
set_option maxRecDepth 20000 in
theorem gX1_loadsIfChanged_X1_loadOfSet : GoodIn wsX1_loadsIfChanged (wsV RX1 66 RX1 yX1_loadOfSet wsX1_loadOfSet) := goodIn_app (goodIn_of _ (by decide +kernel)) ggX1_loadsIfChanged_X1_loadOfSet
theorem dX1_loadsIfChanged_0 : decode cX1_loadsIfChanged 0 = .ok (.iconst 1, 1) := by decide +kernel
theorem dX1_loadsIfChanged_1 : decode cX1_loadsIfChanged 1 = .ok (.iload_n 1, 1) := by decide +kernel
theorem dX1_loadsIfChanged_2 : decode cX1_loadsIfChanged 2 = .ok (.ishl, 1) := by decide +kernel
theorem dX1_loadsIfChanged_3 : decode cX1_loadsIfChanged 3 = .ok (.iconst 1, 1) := by decide +kernel
theorem dX1_loadsIfChanged_4 : decode cX1_loadsIfChanged 4 = .ok (.iload_n 2, 1) := by decide +kernel
theorem dX1_loadsIfChanged_5 : decode cX1_loadsIfChanged 5 = .ok (.ishl, 1) := by decide +kernel
theorem dX1_loadsIfChanged_6 : decode cX1_loadsIfChanged 6 = .ok (.ior, 1) := by decide +kernel
theorem dX1_loadsIfChanged_7 : decode cX1_loadsIfChanged 7 = .ok (.istore_n 3, 1) := by decide +kernel
theorem dX1_loadsIfChanged_8 : decode cX1_loadsIfChanged 8 = .ok (.aload_n 0, 1) := by decide +kernel
theorem dX1_loadsIfChanged_9 : decode cX1_loadsIfChanged 9 = .ok (.getfield 34, 3) := by decide +kernel
theorem dX1_loadsIfChanged_12 : decode cX1_loadsIfChanged 12 = .ok (.iload_n 1, 1) := by decide +kernel
theorem dX1_loadsIfChanged_13 : decode cX1_loadsIfChanged 13 = .ok (.iaload, 1) := by decide +kernel
theorem dX1_loadsIfChanged_14 : decode cX1_loadsIfChanged 14 = .ok (.istore 4, 2) := by decide +kernel
theorem dX1_loadsIfChanged_16 : decode cX1_loadsIfChanged 16 = .ok (.aload_n 0, 1) := by decide +kernel
theorem dX1_loadsIfChanged_17 : decode cX1_loadsIfChanged 17 = .ok (.getfield 34, 3) := by decide +kernel
theorem dX1_loadsIfChanged_20 : decode cX1_loadsIfChanged 20 = .ok (.iload_n 2, 1) := by decide +kernel
theorem dX1_loadsIfChanged_21 : decode cX1_loadsIfChanged 21 = .ok (.iaload, 1) := by decide +kernel
theorem dX1_loadsIfChanged_22 : decode cX1_loadsIfChanged 22 = .ok (.istore 5, 2) := by decide +kernel
theorem dX1_loadsIfChanged_24 : decode cX1_loadsIfChanged 24 = .ok (.aload_n 0, 1) := by decide +kernel
theorem dX1_loadsIfChanged_25 : decode cX1_loadsIfChanged 25 = .ok (.iload 4, 2) := by decide +kernel
theorem dX1_loadsIfChanged_27 : decode cX1_loadsIfChanged 27 = .ok (.aload_n 0, 1) := by decide +kernel
theorem dX1_loadsIfChanged_28 : decode cX1_loadsIfChanged 28 = .ok (.iload 4, 2) := by decide +kernel
theorem dX1_loadsIfChanged_30 : decode cX1_loadsIfChanged 30 = .ok (.invokevirtual 53, 3) := by decide +kernel
theorem dX1_loadsIfChanged_33 : decode cX1_loadsIfChanged 33 = .ok (.iload_n 3, 1) := by decide +kernel
theorem dX1_loadsIfChanged_34 : decode cX1_loadsIfChanged 34 = .ok (.ixor, 1) := by decide +kernel
theorem dX1_loadsIfChanged_35 : decode cX1_loadsIfChanged 35 = .ok (.aload_n 0, 1) := by decide +kernel
theorem dX1_loadsIfChanged_36 : decode cX1_loadsIfChanged 36 = .ok (.getfield 37, 3) := by decide +kernel
theorem dX1_loadsIfChanged_39 : decode cX1_loadsIfChanged 39 = .ok (.invokevirtual 66, 3) := by decide +kernel
theorem dX1_loadsIfChanged_42 : decode cX1_loadsIfChanged 42 = .ok (.aload_n 0, 1) := by decide +kernel
theorem dX1_loadsIfChanged_43 : decode cX1_loadsIfChanged 43 = .ok (.iload 5, 2) := by decide +kernel
theorem dX1_loadsIfChanged_45 : decode cX1_loadsIfChanged 45 = .ok (.aload_n 0, 1) := by decide +kernel
theorem dX1_loadsIfChanged_46 : decode cX1_loadsIfChanged 46 = .ok (.iload 5, 2) := by decide +kernel
theorem dX1_loadsIfChanged_48 : decode cX1_loadsIfChanged 48 = .ok (.invokevirtual 53, 3) := by decide +kernel
theorem dX1_loadsIfChanged_51 : decode cX1_loadsIfChanged 51 = .ok (.iload_n 3, 1) := by decide +kernel
theorem dX1_loadsIfChanged_52 : decode cX1_loadsIfChanged 52 = .ok (.ixor, 1) := by decide +kernel
theorem dX1_loadsIfChanged_53 : decode cX1_loadsIfChanged 53 = .ok (.aload_n 0, 1) := by decide +kernel
theorem dX1_loadsIfChanged_54 : decode cX1_loadsIfChanged 54 = .ok (.getfield 37, 3) := by decide +kernel
theorem dX1_loadsIfChanged_57 : decode cX1_loadsIfChanged 57 = .ok (.invokevirtual 66, 3) := by decide +kernel
theorem dX1_loadsIfChanged_60 : decode cX1_loadsIfChanged 60 = .ok (.iadd, 1) := by decide +kernel
theorem dX1_loadsIfChanged_61 : decode cX1_loadsIfChanged 61 = .ok (.ireturn, 1) := by decide +kernel
set_option maxRecDepth 20000 in
theorem ggX1_passDay_X1_strengthAfter : GoodIn wsX1_passDay wsX1_strengthAfter := goodIn_r _ [8, 9, 10, 11, 12, 7, 13, 14, 15, 16, 17, 18, 19, 20, 21, 22, 23, 24, 25, 26, 27, 28, 29, 30, 31, 32, 33, 34, 35, 36, 37, 38, 39, 40, 41, 42, 43, 44, 45, 46, 47, 48, 49, 50, 51, 52, 53, 54, 55, 56, 57, 58, 59, 60, 61] (by decide +kernel) (by decide +kernel)
set_option maxRecDepth 20000 in
theorem gX1_passDay_X1_strengthAfter : GoodIn wsX1_passDay (wsV RX1 77 RX1 yX1_strengthAfter wsX1_strengthAfter) := goodIn_app (goodIn_of _ (by decide +kernel)) ggX1_passDay_X1_strengthAfter
theorem dX1_passDay_0 : decode cX1_passDay 0 = .ok (.iconst 0, 1) := by decide +kernel
theorem dX1_passDay_1 : decode cX1_passDay 1 = .ok (.istore_n 1, 1) := by decide +kernel
theorem dX1_passDay_2 : decode cX1_passDay 2 = .ok (.iload_n 1, 1) := by decide +kernel
theorem dX1_passDay_3 : decode cX1_passDay 3 = .ok (.aload_n 0, 1) := by decide +kernel
theorem dX1_passDay_4 : decode cX1_passDay 4 = .ok (.getfield 9, 3) := by decide +kernel
theorem dX1_passDay_7 : decode cX1_passDay 7 = .ok (.if_icmp .ge 30, 3) := by decide +kernel
theorem dX1_passDay_10 : decode cX1_passDay 10 = .ok (.aload_n 0, 1) := by decide +kernel
theorem dX1_passDay_11 : decode cX1_passDay 11 = .ok (.getfield 19, 3) := by decide +kernel
theorem dX1_passDay_14 : decode cX1_passDay 14 = .ok (.iload_n 1, 1) := by decide +kernel
theorem dX1_passDay_15 : decode cX1_passDay 15 = .ok (.aload_n 0, 1) := by decide +kernel
theorem dX1_passDay_16 : decode cX1_passDay 16 = .ok (.iload_n 1, 1) := by decide +kernel
theorem dX1_passDay_17 : decode cX1_passDay 17 = .ok (.aload_n 0, 1) := by decide +kernel
theorem dX1_passDay_18 : decode cX1_passDay 18 = .ok (.getfield 19, 3) := by decide +kernel
theorem dX1_passDay_21 : decode cX1_passDay 21 = .ok (.iload_n 1, 1) := by decide +kernel
theorem dX1_passDay_22 : decode cX1_passDay 22 = .ok (.iaload, 1) := by decide +kernel
theorem dX1_passDay_23 : decode cX1_passDay 23 = .ok (.aload_n 0, 1) := by decide +kernel
theorem dX1_passDay_24 : decode cX1_passDay 24 = .ok (.getfield 37, 3) := by decide +kernel
theorem dX1_passDay_27 : decode cX1_passDay 27 = .ok (.invokevirtual 77, 3) := by decide +kernel
theorem dX1_passDay_30 : decode cX1_passDay 30 = .ok (.iastore, 1) := by decide +kernel
theorem dX1_passDay_31 : decode cX1_passDay 31 = .ok (.iinc 1 1, 3) := by decide +kernel
theorem dX1_passDay_34 : decode cX1_passDay 34 = .ok (.goto (-32), 3) := by decide +kernel
theorem dX1_passDay_37 : decode cX1_passDay 37 = .ok (.aload_n 0, 1) := by decide +kernel
theorem dX1_passDay_38 : decode cX1_passDay 38 = .ok (.dup, 1) := by decide +kernel
theorem dX1_passDay_39 : decode cX1_passDay 39 = .ok (.getfield 37, 3) := by decide +kernel
theorem dX1_passDay_42 : decode cX1_passDay 42 = .ok (.iconst 1, 1) := by decide +kernel
theorem dX1_passDay_43 : decode cX1_passDay 43 = .ok (.iadd, 1) := by decide +kernel
theorem dX1_passDay_44 : decode cX1_passDay 44 = .ok (.putfield 37, 3) := by decide +kernel
theorem dX1_passDay_47 : decode cX1_passDay 47 = .ok (.return_, 1) := by decide +kernel
theorem dX1_drawAndHang_0 : decode cX1_drawAndHang 0 = .ok (.aload_n 0, 1) := by decide +kernel
theorem dX1_drawAndHang_1 : decode cX1_drawAndHang 1 = .ok (.aload_n 0, 1) := by decide +kernel
theorem dX1_drawAndHang_2 : decode cX1_drawAndHang 2 = .ok (.getfield 40, 3) := by decide +kernel
theorem dX1_drawAndHang_5 : decode cX1_drawAndHang 5 = .ok (.i2l, 1) := by decide +kernel
theorem dX1_drawAndHang_6 : decode cX1_drawAndHang 6 = .ok (.ldc2_w 87, 3) := by decide +kernel
theorem dX1_drawAndHang_9 : decode cX1_drawAndHang 9 = .ok (.lmul, 1) := by decide +kernel
theorem dX1_drawAndHang_10 : decode cX1_drawAndHang 10 = .ok (.ldc2_w 89, 3) := by decide +kernel
theorem dX1_drawAndHang_13 : decode cX1_drawAndHang 13 = .ok (.ladd, 1) := by decide +kernel
theorem dX1_drawAndHang_14 : decode cX1_drawAndHang 14 = .ok (.ldc2_w 91, 3) := by decide +kernel
theorem dX1_drawAndHang_17 : decode cX1_drawAndHang 17 = .ok (.land, 1) := by decide +kernel
theorem dX1_drawAndHang_18 : decode cX1_drawAndHang 18 = .ok (.l2i, 1) := by decide +kernel
theorem dX1_drawAndHang_19 : decode cX1_drawAndHang 19 = .ok (.putfield 40, 3) := by decide +kernel
theorem dX1_drawAndHang_22 : decode cX1_drawAndHang 22 = .ok (.aload_n 0, 1) := by decide +kernel
theorem dX1_drawAndHang_23 : decode cX1_drawAndHang 23 = .ok (.getfield 22, 3) := by decide +kernel
theorem dX1_drawAndHang_26 : decode cX1_drawAndHang 26 = .ok (.ifCond .le 40, 3) := by decide +kernel
theorem dX1_drawAndHang_29 : decode cX1_drawAndHang 29 = .ok (.aload_n 0, 1) := by decide +kernel
theorem dX1_drawAndHang_30 : decode cX1_drawAndHang 30 = .ok (.getfield 9, 3) := by decide +kernel
theorem dX1_drawAndHang_33 : decode cX1_drawAndHang 33 = .ok (.ifCond .le 33, 3) := by decide +kernel
theorem dX1_drawAndHang_36 : decode cX1_drawAndHang 36 = .ok (.aload_n 0, 1) := by decide +kernel
theorem dX1_drawAndHang_37 : decode cX1_drawAndHang 37 = .ok (.getfield 34, 3) := by decide +kernel
theorem dX1_drawAndHang_40 : decode cX1_drawAndHang 40 = .ok (.aload_n 0, 1) := by decide +kernel
theorem dX1_drawAndHang_41 : decode cX1_drawAndHang 41 = .ok (.getfield 40, 3) := by decide +kernel
theorem dX1_drawAndHang_44 : decode cX1_drawAndHang 44 = .ok (.ldc 93, 2) := by decide +kernel
theorem dX1_drawAndHang_46 : decode cX1_drawAndHang 46 = .ok (.idiv, 1) := by decide +kernel
theorem dX1_drawAndHang_47 : decode cX1_drawAndHang 47 = .ok (.aload_n 0, 1) := by decide +kernel
theorem dX1_drawAndHang_48 : decode cX1_drawAndHang 48 = .ok (.getfield 22, 3) := by decide +kernel
theorem dX1_drawAndHang_51 : decode cX1_drawAndHang 51 = .ok (.irem, 1) := by decide +kernel
theorem dX1_drawAndHang_52 : decode cX1_drawAndHang 52 = .ok (.aload_n 0, 1) := by decide +kernel
theorem dX1_drawAndHang_53 : decode cX1_drawAndHang 53 = .ok (.getfield 40, 3) := by decide +kernel
theorem dX1_drawAndHang_56 : decode cX1_drawAndHang 56 = .ok (.sipush 128, 3) := by decide +kernel
theorem dX1_drawAndHang_59 : decode cX1_drawAndHang 59 = .ok (.idiv, 1) := by decide +kernel
theorem dX1_drawAndHang_60 : decode cX1_drawAndHang 60 = .ok (.aload_n 0, 1) := by decide +kernel
theorem dX1_drawAndHang_61 : decode cX1_drawAndHang 61 = .ok (.getfield 9, 3) := by decide +kernel
theorem dX1_drawAndHang_64 : decode cX1_drawAndHang 64 = .ok (.irem, 1) := by decide +kernel
theorem dX1_drawAndHang_65 : decode cX1_drawAndHang 65 = .ok (.iastore, 1) := by decide +kernel
theorem dX1_drawAndHang_66 : decode cX1_drawAndHang 66 = .ok (.return_, 1) := by decide +kernel
theorem dX5_strengthNext_0 : decode cX5_strengthNext 0 = .ok (.iload_n 2, 1) := by decide +kernel
theorem dX5_strengthNext_1 : decode cX5_strengthNext 1 = .ok (.iload_n 0, 1) := by decide +kernel
theorem dX5_strengthNext_2 : decode cX5_strengthNext 2 = .ok (.if_icmp .le 13, 3) := by decide +kernel
theorem dX5_strengthNext_5 : decode cX5_strengthNext 5 = .ok (.iconst 0, 1) := by decide +kernel
theorem dX5_strengthNext_6 : decode cX5_strengthNext 6 = .ok (.iload_n 0, 1) := by decide +kernel
theorem dX5_strengthNext_7 : decode cX5_strengthNext 7 = .ok (.iconst 1, 1) := by decide +kernel
theorem dX5_strengthNext_8 : decode cX5_strengthNext 8 = .ok (.isub, 1) := by decide +kernel
theorem dX5_strengthNext_9 : decode cX5_strengthNext 9 = .ok (.invokestatic 204, 3) := by decide +kernel
theorem dX5_strengthNext_12 : decode cX5_strengthNext 12 = .ok (.goto 10, 3) := by decide +kernel
theorem dX5_strengthNext_15 : decode cX5_strengthNext 15 = .ok (.iload_n 1, 1) := by decide +kernel
theorem dX5_strengthNext_16 : decode cX5_strengthNext 16 = .ok (.iload_n 0, 1) := by decide +kernel
theorem dX5_strengthNext_17 : decode cX5_strengthNext 17 = .ok (.iconst 1, 1) := by decide +kernel
theorem dX5_strengthNext_18 : decode cX5_strengthNext 18 = .ok (.iadd, 1) := by decide +kernel
theorem dX5_strengthNext_19 : decode cX5_strengthNext 19 = .ok (.invokestatic 165, 3) := by decide +kernel
theorem dX5_strengthNext_22 : decode cX5_strengthNext 22 = .ok (.ireturn, 1) := by decide +kernel
theorem dJ6_bitCount_0f7a4_0 : decode cJ6_bitCount_0f7a4 0 = .ok (.iload_n 0, 1) := by decide +kernel
theorem dJ6_bitCount_0f7a4_1 : decode cJ6_bitCount_0f7a4 1 = .ok (.iload_n 0, 1) := by decide +kernel
theorem dJ6_bitCount_0f7a4_2 : decode cJ6_bitCount_0f7a4 2 = .ok (.iconst 1, 1) := by decide +kernel
theorem dJ6_bitCount_0f7a4_3 : decode cJ6_bitCount_0f7a4 3 = .ok (.iushr, 1) := by decide +kernel
theorem dJ6_bitCount_0f7a4_4 : decode cJ6_bitCount_0f7a4 4 = .ok (.ldc_w 265, 3) := by decide +kernel
theorem dJ6_bitCount_0f7a4_7 : decode cJ6_bitCount_0f7a4 7 = .ok (.iand, 1) := by decide +kernel
theorem dJ6_bitCount_0f7a4_8 : decode cJ6_bitCount_0f7a4 8 = .ok (.isub, 1) := by decide +kernel
theorem dJ6_bitCount_0f7a4_9 : decode cJ6_bitCount_0f7a4 9 = .ok (.istore_n 0, 1) := by decide +kernel
theorem dJ6_bitCount_0f7a4_10 : decode cJ6_bitCount_0f7a4 10 = .ok (.iload_n 0, 1) := by decide +kernel
theorem dJ6_bitCount_0f7a4_11 : decode cJ6_bitCount_0f7a4 11 = .ok (.ldc_w 266, 3) := by decide +kernel
theorem dJ6_bitCount_0f7a4_14 : decode cJ6_bitCount_0f7a4 14 = .ok (.iand, 1) := by decide +kernel
theorem dJ6_bitCount_0f7a4_15 : decode cJ6_bitCount_0f7a4 15 = .ok (.iload_n 0, 1) := by decide +kernel
theorem dJ6_bitCount_0f7a4_16 : decode cJ6_bitCount_0f7a4 16 = .ok (.iconst 2, 1) := by decide +kernel
theorem dJ6_bitCount_0f7a4_17 : decode cJ6_bitCount_0f7a4 17 = .ok (.iushr, 1) := by decide +kernel
theorem dJ6_bitCount_0f7a4_18 : decode cJ6_bitCount_0f7a4 18 = .ok (.ldc_w 266, 3) := by decide +kernel
theorem dJ6_bitCount_0f7a4_21 : decode cJ6_bitCount_0f7a4 21 = .ok (.iand, 1) := by decide +kernel
theorem dJ6_bitCount_0f7a4_22 : decode cJ6_bitCount_0f7a4 22 = .ok (.iadd, 1) := by decide +kernel
theorem dJ6_bitCount_0f7a4_23 : decode cJ6_bitCount_0f7a4 23 = .ok (.istore_n 0, 1) := by decide +kernel
theorem dJ6_bitCount_0f7a4_24 : decode cJ6_bitCount_0f7a4 24 = .ok (.iload_n 0, 1) := by decide +kernel
theorem dJ6_bitCount_0f7a4_25 : decode cJ6_bitCount_0f7a4 25 = .ok (.iload_n 0, 1) := by decide +kernel
theorem dJ6_bitCount_0f7a4_26 : decode cJ6_bitCount_0f7a4 26 = .ok (.iconst 4, 1) := by decide +kernel
theorem dJ6_bitCount_0f7a4_27 : decode cJ6_bitCount_0f7a4 27 = .ok (.iushr, 1) := by decide +kernel
theorem dJ6_bitCount_0f7a4_28 : decode cJ6_bitCount_0f7a4 28 = .ok (.iadd, 1) := by decide +kernel
theorem dJ6_bitCount_0f7a4_29 : decode cJ6_bitCount_0f7a4 29 = .ok (.ldc_w 267, 3) := by decide +kernel
theorem dJ6_bitCount_0f7a4_32 : decode cJ6_bitCount_0f7a4 32 = .ok (.iand, 1) := by decide +kernel
theorem dJ6_bitCount_0f7a4_33 : decode cJ6_bitCount_0f7a4 33 = .ok (.istore_n 0, 1) := by decide +kernel
theorem dJ6_bitCount_0f7a4_34 : decode cJ6_bitCount_0f7a4 34 = .ok (.iload_n 0, 1) := by decide +kernel
theorem dJ6_bitCount_0f7a4_35 : decode cJ6_bitCount_0f7a4 35 = .ok (.iload_n 0, 1) := by decide +kernel
theorem dJ6_bitCount_0f7a4_36 : decode cJ6_bitCount_0f7a4 36 = .ok (.bipush 8, 2) := by decide +kernel
theorem dJ6_bitCount_0f7a4_38 : decode cJ6_bitCount_0f7a4 38 = .ok (.iushr, 1) := by decide +kernel
theorem dJ6_bitCount_0f7a4_39 : decode cJ6_bitCount_0f7a4 39 = .ok (.iadd, 1) := by decide +kernel
theorem dJ6_bitCount_0f7a4_40 : decode cJ6_bitCount_0f7a4 40 = .ok (.istore_n 0, 1) := by decide +kernel
theorem dJ6_bitCount_0f7a4_41 : decode cJ6_bitCount_0f7a4 41 = .ok (.iload_n 0, 1) := by decide +kernel
theorem dJ6_bitCount_0f7a4_42 : decode cJ6_bitCount_0f7a4 42 = .ok (.iload_n 0, 1) := by decide +kernel
theorem dJ6_bitCount_0f7a4_43 : decode cJ6_bitCount_0f7a4 43 = .ok (.bipush 16, 2) := by decide +kernel
theorem dJ6_bitCount_0f7a4_45 : decode cJ6_bitCount_0f7a4 45 = .ok (.iushr, 1) := by decide +kernel
theorem dJ6_bitCount_0f7a4_46 : decode cJ6_bitCount_0f7a4 46 = .ok (.iadd, 1) := by decide +kernel
theorem dJ6_bitCount_0f7a4_47 : decode cJ6_bitCount_0f7a4 47 = .ok (.istore_n 0, 1) := by decide +kernel
theorem dJ6_bitCount_0f7a4_48 : decode cJ6_bitCount_0f7a4 48 = .ok (.iload_n 0, 1) := by decide +kernel
theorem dJ6_bitCount_0f7a4_49 : decode cJ6_bitCount_0f7a4 49 = .ok (.bipush 63, 2) := by decide +kernel
theorem dJ6_bitCount_0f7a4_51 : decode cJ6_bitCount_0f7a4 51 = .ok (.iand, 1) := by decide +kernel
theorem dJ6_bitCount_0f7a4_52 : decode cJ6_bitCount_0f7a4 52 = .ok (.ireturn, 1) := by decide +kernel
def bX1_medalsWith_wr_5 (md_n : Int32) (wr_n : Nat → Int32) (p2 : Int32) (K1 : ((Int32 × Int32)) → Option Int32) : ((Int32 × Int32)) → Option Int32
  | (v3_1, v4_1) => if md_n ≤ v4_1 then (some v3_1) else (gin v4_1 6 (if (wr_n (Int32.toNatClampNeg v4_1)) = p2 then (nm (v3_1 ||| (1 <<< (v4_1 &&& 31))) (fun x6 => nm (v4_1 + 1) (fun x7 => K1 (x6, x7)))) else (nm (v4_1 + 1) (fun x5 => K1 (v3_1, x5)))))
def fX1_medalsWith_wr (p2 : Int32)  (md_n : Int32) (wr_n : Nat → Int32) : Option Int32 := lp (bX1_medalsWith_wr_5 md_n wr_n p2) FU (0, 0)
theorem in_X1_medalsWith_X1 : ∀ w ∈ wsX10, w ∈ wsX1_medalsWith := by decide +kernel
set_option maxHeartbeats 4000000 in
set_option maxRecDepth 100000 in
theorem ct_X1_medalsWith_wr {l : Launch} {D : va_G} {g : Nat → ClassId} {qa : Nat → Nat} {E0 : Nat → va_E} {b : Nat} {p2 : Int32} {men_n : Int32} {md_n : Int32} {day_n : Int32} {drw_n : Int32} {bu_n : Nat → Int32} {st_n : Nat → Int32} {ki_n : Nat → Int32} {we_n : Nat → Int32} {wo_n : Nat → Int32} {wr_n : Nat → Int32} (hb_n : b + 7 ≤ 74) (hG_n : Mu g qa E0 b men_n md_n day_n drw_n bu_n st_n ki_n we_n wo_n wr_n) {R : Int32} (hf : fX1_medalsWith_wr p2 md_n wr_n = some R) : MI l yX1_medalsWith wsX1_medalsWith 0 D g qa E0 [.ref (qa b), .ref (qa (b + 6)), .int p2] R (fun E => E = E0) := by
  refine MI.mk (by decide) rfl (Nat.le_of_ble_eq_true rfl) ?_
  intro p e s m args below meth c ls Q X hret hP hS hl
  have hl : lv_has ls 5 [(0, .ref (qa b)), (1, .ref (qa (b + 6))), (2, .int p2)] := hl
  rw [fX1_medalsWith_wr] at hf
  refine lv_iconst (v := 0) X.1 X.2.1 dX1_medalsWith_0 (by decide) ?_
  refine lv_istore_n (lv' := [(3, .int 0), (0, .ref (qa b)), (1, .ref (qa (b + 6))), (2, .int p2)]) X.1 X.2.1 dX1_medalsWith_1 rfl hl (by decide) rfl (fun ls hl => ?_)
  refine lv_iconst (v := 0) X.1 X.2.1 dX1_medalsWith_2 (by decide) ?_
  refine lv_istore (lv' := [(4, .int 0), (3, .int 0), (0, .ref (qa b)), (1, .ref (qa (b + 6))), (2, .int p2)]) X.1 X.2.1 dX1_medalsWith_3 hl (by decide) rfl (fun ls hl => ?_)
  have lp1 : ∀ (n1 : Nat) (v3_1 : Int32) (v4_1 : Int32) (H : Heap) (locs : List Loc) (ls : Array Slot), lp (bX1_medalsWith_wr_5 md_n wr_n p2) n1 (v3_1, v4_1) = some R → va_P D vwCl (WD qa E0) H → va_S (gA qa s.heap.size) s.heap H locs → lv_has ls 5 [(0, .ref (qa b)), (1, .ref (qa (b + 6))), (2, .int p2), (3, .int v3_1), (4, .int v4_1)] → W p l e (rmf 0) s m args below meth c H locs 0 0 Q (F0 m 5 ls []) := by
    intro n1
    induction n1 with
    | zero =>
      intro v3_1 v4_1 H locs ls hf
      exact absurd hf (by intro h; cases h)
    | succ n1 ih1 =>
      intro v3_1 v4_1 H locs ls hf hP hS hl
      have hf : bX1_medalsWith_wr_5 md_n wr_n p2 (lp (bX1_medalsWith_wr_5 md_n wr_n p2) n1) (v3_1, v4_1) = some R := hf
      rw [bX1_medalsWith_wr_5] at hf
      refine lv_iload X.1 X.2.1 dX1_medalsWith_5 (lv_at hl 4 rfl) ?_
      refine lv_aload_n X.1 X.2.1 dX1_medalsWith_7 rfl (lv_at hl 0 rfl) ?_
      refine x_get X hP hG_n.1 (by omega) rfl in_X1_medalsWith_X1 3 (by decide) (by decide +kernel) rfl rfl dX1_medalsWith_8 ?_
      refine lv_icmp_ge (tgt := 35) X.1 X.2.1 dX1_medalsWith_11 (by decide) (fun c2 => ?_) (fun c2 => ?_)
      · have hf := ifp hf c2
        refine lv_iload_n X.1 X.2.1 dX1_medalsWith_35 rfl (lv_at hl 3 rfl) ?_
        obtain rfl := Option.some.inj hf
        exact hret _ _ _ _ _ _ dX1_medalsWith_36 rfl rfl (rfl) hP hS
      · have hf := ifn hf c2
        refine lv_aload_n X.1 X.2.1 dX1_medalsWith_14 rfl (lv_at hl 1 rfl) ?_
        refine lv_iload X.1 X.2.1 dX1_medalsWith_15 (lv_at hl 4 rfl) ?_
        obtain ⟨hi3, hf⟩ := gin_of hf
        refine x_iald X hP hG_n.2.2.2.2.2.2 (by omega) hi3 dX1_medalsWith_17 ?_
        refine lv_iload_n X.1 X.2.1 dX1_medalsWith_18 rfl (lv_at hl 2 rfl) ?_
        refine lv_icmp_ne (tgt := 29) X.1 X.2.1 dX1_medalsWith_19 (by decide) (fun c4 => ?_) (fun c4 => ?_)
        · have hf := ifn hf c4
          obtain ⟨x5, ex5, hf⟩ := nm_of hf
          refine lv_iinc (v := x5) (lv' := [(4, .int x5), (0, .ref (qa b)), (1, .ref (qa (b + 6))), (2, .int p2), (3, .int v3_1)]) X.1 X.2.1 dX1_medalsWith_29 hl (k := 4) rfl (by rw [ex5]; rfl) (by decide) rfl (fun ls hl => ?_)
          refine lv_goto (tgt := 5) X.1 X.2.1 dX1_medalsWith_32 (by decide) ?_
          exact ih1 v3_1 x5 _ _ _ hf hP hS (lv_sub hl [1, 2, 3, 4, 0] rfl)
        · have hf := ifp hf c4
          refine lv_iload_n X.1 X.2.1 dX1_medalsWith_22 rfl (lv_at hl 3 rfl) ?_
          refine lv_iconst (v := 1) X.1 X.2.1 dX1_medalsWith_23 (by decide) ?_
          refine lv_iload X.1 X.2.1 dX1_medalsWith_24 (lv_at hl 4 rfl) ?_
          refine lv_ishl X.1 X.2.1 dX1_medalsWith_26 ?_
          refine lv_ior X.1 X.2.1 dX1_medalsWith_27 ?_
          obtain ⟨x6, ex6, hf⟩ := nm_of hf
          refine lv_top_as ex6 ?_
          refine lv_istore_n (lv' := [(3, .int x6), (0, .ref (qa b)), (1, .ref (qa (b + 6))), (2, .int p2), (4, .int v4_1)]) X.1 X.2.1 dX1_medalsWith_28 rfl hl (by decide) rfl (fun ls hl => ?_)
          obtain ⟨x7, ex7, hf⟩ := nm_of hf
          refine lv_iinc (v := x7) (lv' := [(4, .int x7), (3, .int x6), (0, .ref (qa b)), (1, .ref (qa (b + 6))), (2, .int p2)]) X.1 X.2.1 dX1_medalsWith_29 hl (k := 4) rfl (by rw [ex7]; rfl) (by decide) rfl (fun ls hl => ?_)
          refine lv_goto (tgt := 5) X.1 X.2.1 dX1_medalsWith_32 (by decide) ?_
          exact ih1 x6 x7 _ _ _ hf hP hS (lv_sub hl [2, 3, 4, 1, 0] rfl)
  exact lp1 FU 0 0 _ _ _ hf hP hS (lv_sub hl [2, 3, 4, 1, 0] rfl)
def fX1_wornBy (p1 : Int32)  (md_n : Int32) (wr_n : Nat → Int32) : Option Int32 := (fX1_medalsWith_wr p1 md_n wr_n).bind (fun r1 => some r1)
theorem in_X1_wornBy_X1 : ∀ w ∈ wsX10, w ∈ wsX1_wornBy := by decide +kernel
set_option maxHeartbeats 4000000 in
set_option maxRecDepth 100000 in
theorem ct_X1_wornBy {l : Launch} {D : va_G} {g : Nat → ClassId} {qa : Nat → Nat} {E0 : Nat → va_E} {b : Nat} {p1 : Int32} {men_n : Int32} {md_n : Int32} {day_n : Int32} {drw_n : Int32} {bu_n : Nat → Int32} {st_n : Nat → Int32} {ki_n : Nat → Int32} {we_n : Nat → Int32} {wo_n : Nat → Int32} {wr_n : Nat → Int32} (hb_n : b + 7 ≤ 74) (hG_n : Mu g qa E0 b men_n md_n day_n drw_n bu_n st_n ki_n we_n wo_n wr_n) {R : Int32} (hf : fX1_wornBy p1 md_n wr_n = some R) : MI l yX1_wornBy wsX1_wornBy 1 D g qa E0 [.ref (qa b), .int p1] R (fun E => E = E0) := by
  refine MI.mk (by decide) rfl (Nat.le_of_ble_eq_true rfl) ?_
  intro p e s m args below meth c ls Q X hret hP hS hl
  have hl : lv_has ls 2 [(0, .ref (qa b)), (1, .int p1)] := hl
  rw [fX1_wornBy] at hf
  refine lv_aload_n X.1 X.2.1 dX1_wornBy_0 rfl (lv_at hl 0 rfl) ?_
  refine lv_aload_n X.1 X.2.1 dX1_wornBy_1 rfl (lv_at hl 0 rfl) ?_
  refine x_get X hP hG_n.1 (by omega) rfl in_X1_wornBy_X1 7 (by decide) (by decide +kernel) rfl rfl dX1_wornBy_2 ?_
  refine lv_iload_n X.1 X.2.1 dX1_wornBy_5 rfl (lv_at hl 1 rfl) ?_
  obtain ⟨r1, hr1, hf⟩ := bd_of hf
  refine x_rdVi X hP hS hG_n.1 (by omega) rfl (n := 2) (As := [.ref (qa (b + 6)), .int p1]) (ct_X1_medalsWith_wr (by omega) hG_n hr1) gX1_wornBy_X1_medalsWith rfl (by decide +kernel) ⟨by decide, by decide⟩ rfl hl.1 rfl (Nat.le_of_ble_eq_true rfl) dX1_wornBy_6 (fun H locs hP hS => ?_)
  obtain rfl := Option.some.inj hf
  exact hret _ _ _ _ _ _ dX1_wornBy_9 rfl rfl (rfl) hP hS
def fX1_allWorn   (md_n : Int32) (wr_n : Nat → Int32) : Option Int32 := (fX1_wornBy (-4) md_n wr_n).bind (fun r1 => some (((1 <<< (md_n &&& 31)) - 1) &&& (r1 ^^^ (-1))))
theorem in_X1_allWorn_X1 : ∀ w ∈ wsX10, w ∈ wsX1_allWorn := by decide +kernel
set_option maxHeartbeats 4000000 in
set_option maxRecDepth 100000 in
theorem ct_X1_allWorn {l : Launch} {D : va_G} {g : Nat → ClassId} {qa : Nat → Nat} {E0 : Nat → va_E} {b : Nat} {men_n : Int32} {md_n : Int32} {day_n : Int32} {drw_n : Int32} {bu_n : Nat → Int32} {st_n : Nat → Int32} {ki_n : Nat → Int32} {we_n : Nat → Int32} {wo_n : Nat → Int32} {wr_n : Nat → Int32} (hb_n : b + 7 ≤ 74) (hG_n : Mu g qa E0 b men_n md_n day_n drw_n bu_n st_n ki_n we_n wo_n wr_n) {R : Int32} (hf : fX1_allWorn md_n wr_n = some R) : MI l yX1_allWorn wsX1_allWorn 2 D g qa E0 [.ref (qa b)] R (fun E => E = E0) := by
  refine MI.mk (by decide) rfl (Nat.le_of_ble_eq_true rfl) ?_
  intro p e s m args below meth c ls Q X hret hP hS hl
  have hl : lv_has ls 1 [(0, .ref (qa b))] := hl
  rw [fX1_allWorn] at hf
  refine lv_iconst (v := 1) X.1 X.2.1 dX1_allWorn_0 (by decide) ?_
  refine lv_aload_n X.1 X.2.1 dX1_allWorn_1 rfl (lv_at hl 0 rfl) ?_
  refine x_get X hP hG_n.1 (by omega) rfl in_X1_allWorn_X1 3 (by decide) (by decide +kernel) rfl rfl dX1_allWorn_2 ?_
  refine lv_ishl X.1 X.2.1 dX1_allWorn_5 ?_
  refine lv_iconst (v := 1) X.1 X.2.1 dX1_allWorn_6 (by decide) ?_
  refine lv_isub X.1 X.2.1 dX1_allWorn_7 ?_
  refine lv_aload_n X.1 X.2.1 dX1_allWorn_8 rfl (lv_at hl 0 rfl) ?_
  refine lv_bipush (v := (-4)) X.1 X.2.1 dX1_allWorn_9 (by decide) ?_
  obtain ⟨r1, hr1, hf⟩ := bd_of hf
  refine x_rdVi X hP hS hG_n.1 (by omega) rfl (n := 1) (As := [.int (-4)]) (ct_X1_wornBy (by omega) hG_n hr1) gX1_allWorn_X1_wornBy rfl (by decide +kernel) ⟨by decide, by decide⟩ rfl hl.1 rfl (Nat.le_of_ble_eq_true rfl) dX1_allWorn_11 (fun H locs hP hS => ?_)
  refine lv_iconst (v := (-1)) X.1 X.2.1 dX1_allWorn_14 (by decide) ?_
  refine lv_ixor X.1 X.2.1 dX1_allWorn_15 ?_
  refine lv_iand X.1 X.2.1 dX1_allWorn_16 ?_
  obtain rfl := Option.some.inj hf
  exact hret _ _ _ _ _ _ dX1_allWorn_17 rfl rfl (rfl) hP hS
def fJ6_bitCount_0f7a4 (p1 : Int32)   : Option Int32 := nm (p1 - (((Int32.toUInt32 p1 >>> (Int32.toUInt32 1 &&& Int32.toUInt32 31)).toInt32) &&& 1431655765)) (fun x1 => nm ((x1 &&& 858993459) + (((Int32.toUInt32 x1 >>> (Int32.toUInt32 2 &&& Int32.toUInt32 31)).toInt32) &&& 858993459)) (fun x2 => nm ((x2 + ((Int32.toUInt32 x2 >>> (Int32.toUInt32 4 &&& Int32.toUInt32 31)).toInt32)) &&& 252645135) (fun x3 => nm (x3 + ((Int32.toUInt32 x3 >>> (Int32.toUInt32 8 &&& Int32.toUInt32 31)).toInt32)) (fun x4 => nm (x4 + ((Int32.toUInt32 x4 >>> (Int32.toUInt32 16 &&& Int32.toUInt32 31)).toInt32)) (fun x5 => some (x5 &&& 63))))))
set_option maxHeartbeats 4000000 in
set_option maxRecDepth 100000 in
theorem ct_J6_bitCount_0f7a4 {l : Launch} {D : va_G} {g : Nat → ClassId} {qa : Nat → Nat} {E0 : Nat → va_E} {p1 : Int32} {R : Int32} (hf : fJ6_bitCount_0f7a4 p1 = some R) : MI l yJ6_bitCount_0f7a4 wsJ6_bitCount_0f7a4 0 D g qa E0 [.int p1] R (fun E => E = E0) := by
  refine MI.mk (by decide) rfl (Nat.le_of_ble_eq_true rfl) ?_
  intro p e s m args below meth c ls Q X hret hP hS hl
  have hl : lv_has ls 1 [(0, .int p1)] := hl
  rw [fJ6_bitCount_0f7a4] at hf
  refine lv_iload_n X.1 X.2.1 dJ6_bitCount_0f7a4_0 rfl (lv_at hl 0 rfl) ?_
  refine lv_iload_n X.1 X.2.1 dJ6_bitCount_0f7a4_1 rfl (lv_at hl 0 rfl) ?_
  refine lv_iconst (v := 1) X.1 X.2.1 dJ6_bitCount_0f7a4_2 (by decide) ?_
  refine lv_iushr X.1 X.2.1 dJ6_bitCount_0f7a4_3 rfl ?_
  refine lv_ldcw (v := 1431655765) X.1 X.2.1 X.2.2.2.1 (X.2.2.2.2.1 (.constant RJ6 265 (1431655765)) (by decide +kernel)) dJ6_bitCount_0f7a4_4 ?_
  refine lv_iand X.1 X.2.1 dJ6_bitCount_0f7a4_7 ?_
  refine lv_isub X.1 X.2.1 dJ6_bitCount_0f7a4_8 ?_
  obtain ⟨x1, ex1, hf⟩ := nm_of hf
  refine lv_top_as ex1 ?_
  refine lv_istore_n (lv' := [(0, .int x1)]) X.1 X.2.1 dJ6_bitCount_0f7a4_9 rfl hl (by decide) rfl (fun ls hl => ?_)
  refine lv_iload_n X.1 X.2.1 dJ6_bitCount_0f7a4_10 rfl (lv_at hl 0 rfl) ?_
  refine lv_ldcw (v := 858993459) X.1 X.2.1 X.2.2.2.1 (X.2.2.2.2.1 (.constant RJ6 266 (858993459)) (by decide +kernel)) dJ6_bitCount_0f7a4_11 ?_
  refine lv_iand X.1 X.2.1 dJ6_bitCount_0f7a4_14 ?_
  refine lv_iload_n X.1 X.2.1 dJ6_bitCount_0f7a4_15 rfl (lv_at hl 0 rfl) ?_
  refine lv_iconst (v := 2) X.1 X.2.1 dJ6_bitCount_0f7a4_16 (by decide) ?_
  refine lv_iushr X.1 X.2.1 dJ6_bitCount_0f7a4_17 rfl ?_
  refine lv_ldcw (v := 858993459) X.1 X.2.1 X.2.2.2.1 (X.2.2.2.2.1 (.constant RJ6 266 (858993459)) (by decide +kernel)) dJ6_bitCount_0f7a4_18 ?_
  refine lv_iand X.1 X.2.1 dJ6_bitCount_0f7a4_21 ?_
  refine lv_iadd X.1 X.2.1 dJ6_bitCount_0f7a4_22 ?_
  obtain ⟨x2, ex2, hf⟩ := nm_of hf
  refine lv_top_as ex2 ?_
  refine lv_istore_n (lv' := [(0, .int x2)]) X.1 X.2.1 dJ6_bitCount_0f7a4_23 rfl hl (by decide) rfl (fun ls hl => ?_)
  refine lv_iload_n X.1 X.2.1 dJ6_bitCount_0f7a4_24 rfl (lv_at hl 0 rfl) ?_
  refine lv_iload_n X.1 X.2.1 dJ6_bitCount_0f7a4_25 rfl (lv_at hl 0 rfl) ?_
  refine lv_iconst (v := 4) X.1 X.2.1 dJ6_bitCount_0f7a4_26 (by decide) ?_
  refine lv_iushr X.1 X.2.1 dJ6_bitCount_0f7a4_27 rfl ?_
  refine lv_iadd X.1 X.2.1 dJ6_bitCount_0f7a4_28 ?_
  refine lv_ldcw (v := 252645135) X.1 X.2.1 X.2.2.2.1 (X.2.2.2.2.1 (.constant RJ6 267 (252645135)) (by decide +kernel)) dJ6_bitCount_0f7a4_29 ?_
  refine lv_iand X.1 X.2.1 dJ6_bitCount_0f7a4_32 ?_
  obtain ⟨x3, ex3, hf⟩ := nm_of hf
  refine lv_top_as ex3 ?_
  refine lv_istore_n (lv' := [(0, .int x3)]) X.1 X.2.1 dJ6_bitCount_0f7a4_33 rfl hl (by decide) rfl (fun ls hl => ?_)
  refine lv_iload_n X.1 X.2.1 dJ6_bitCount_0f7a4_34 rfl (lv_at hl 0 rfl) ?_
  refine lv_iload_n X.1 X.2.1 dJ6_bitCount_0f7a4_35 rfl (lv_at hl 0 rfl) ?_
  refine lv_bipush (v := 8) X.1 X.2.1 dJ6_bitCount_0f7a4_36 (by decide) ?_
  refine lv_iushr X.1 X.2.1 dJ6_bitCount_0f7a4_38 rfl ?_
  refine lv_iadd X.1 X.2.1 dJ6_bitCount_0f7a4_39 ?_
  obtain ⟨x4, ex4, hf⟩ := nm_of hf
  refine lv_top_as ex4 ?_
  refine lv_istore_n (lv' := [(0, .int x4)]) X.1 X.2.1 dJ6_bitCount_0f7a4_40 rfl hl (by decide) rfl (fun ls hl => ?_)
  refine lv_iload_n X.1 X.2.1 dJ6_bitCount_0f7a4_41 rfl (lv_at hl 0 rfl) ?_
  refine lv_iload_n X.1 X.2.1 dJ6_bitCount_0f7a4_42 rfl (lv_at hl 0 rfl) ?_
  refine lv_bipush (v := 16) X.1 X.2.1 dJ6_bitCount_0f7a4_43 (by decide) ?_
  refine lv_iushr X.1 X.2.1 dJ6_bitCount_0f7a4_45 rfl ?_
  refine lv_iadd X.1 X.2.1 dJ6_bitCount_0f7a4_46 ?_
  obtain ⟨x5, ex5, hf⟩ := nm_of hf
  refine lv_top_as ex5 ?_
  refine lv_istore_n (lv' := [(0, .int x5)]) X.1 X.2.1 dJ6_bitCount_0f7a4_47 rfl hl (by decide) rfl (fun ls hl => ?_)
  refine lv_iload_n X.1 X.2.1 dJ6_bitCount_0f7a4_48 rfl (lv_at hl 0 rfl) ?_
  refine lv_bipush (v := 63) X.1 X.2.1 dJ6_bitCount_0f7a4_49 (by decide) ?_
  refine lv_iand X.1 X.2.1 dJ6_bitCount_0f7a4_51 ?_
  obtain rfl := Option.some.inj hf
  exact hret _ _ _ _ _ _ dJ6_bitCount_0f7a4_52 rfl rfl (rfl) hP hS
def fX1_bears (p1 : Int32) (p2 : Int32) (p3 : Int32) (p4 : Int32)  (ki_n : Nat → Int32) (we_n : Nat → Int32) (wo_n : Nat → Int32) : Option Int32 := gin p1 6 (nm (we_n (Int32.toNatClampNeg p1)) (fun x2 => nm (2 * x2) (fun x3 => if (p4 - p4 / 2 * 2) = 0 then (gin p1 6 (if (ki_n (Int32.toNatClampNeg p1)) = 1 then (gin p1 6 (if (wo_n (Int32.toNatClampNeg p1)) = p2 then (some (x3 / 2)) else (some x3))) else (if (ki_n (Int32.toNatClampNeg p1)) = 2 then (gin p1 6 (if (wo_n (Int32.toNatClampNeg p1)) = p2 then (some (x2 / 2)) else (some x2))) else (if (ki_n (Int32.toNatClampNeg p1)) = 3 then (nm (x3 + p3) (fun x31 => gin p1 6 (if (wo_n (Int32.toNatClampNeg p1)) = p2 then (some (x31 / 2)) else (some x31)))) else (if (ki_n (Int32.toNatClampNeg p1)) = 4 then (nm (x2 / 2) (fun x35 => gin p1 6 (if (wo_n (Int32.toNatClampNeg p1)) = p2 then (some (x35 / 2)) else (some x35)))) else (gin p1 6 (if (wo_n (Int32.toNatClampNeg p1)) = p2 then (some (x2 / 2)) else (some x2)))))))) else (nm (x2 + 3) (fun x5 => gin p1 6 (if (ki_n (Int32.toNatClampNeg p1)) = 1 then (gin p1 6 (if (wo_n (Int32.toNatClampNeg p1)) = p2 then (some (x3 / 2)) else (some x3))) else (if (ki_n (Int32.toNatClampNeg p1)) = 2 then (gin p1 6 (if (wo_n (Int32.toNatClampNeg p1)) = p2 then (some (x5 / 2)) else (some x5))) else (if (ki_n (Int32.toNatClampNeg p1)) = 3 then (nm (x3 + p3) (fun x14 => gin p1 6 (if (wo_n (Int32.toNatClampNeg p1)) = p2 then (some (x14 / 2)) else (some x14)))) else (if (ki_n (Int32.toNatClampNeg p1)) = 4 then (nm (x5 / 2) (fun x18 => gin p1 6 (if (wo_n (Int32.toNatClampNeg p1)) = p2 then (some (x18 / 2)) else (some x18)))) else (gin p1 6 (if (wo_n (Int32.toNatClampNeg p1)) = p2 then (some (x2 / 2)) else (some x2))))))))))))
theorem in_X1_bears_X1 : ∀ w ∈ wsX10, w ∈ wsX1_bears := by decide +kernel
set_option maxHeartbeats 4000000 in
set_option maxRecDepth 100000 in
theorem ct_X1_bears {l : Launch} {D : va_G} {g : Nat → ClassId} {qa : Nat → Nat} {E0 : Nat → va_E} {b : Nat} {p1 : Int32} {p2 : Int32} {p3 : Int32} {p4 : Int32} {men_n : Int32} {md_n : Int32} {day_n : Int32} {drw_n : Int32} {bu_n : Nat → Int32} {st_n : Nat → Int32} {ki_n : Nat → Int32} {we_n : Nat → Int32} {wo_n : Nat → Int32} {wr_n : Nat → Int32} (hb_n : b + 7 ≤ 74) (hG_n : Mu g qa E0 b men_n md_n day_n drw_n bu_n st_n ki_n we_n wo_n wr_n) {R : Int32} (hf : fX1_bears p1 p2 p3 p4 ki_n we_n wo_n = some R) : MI l yX1_bears wsX1_bears 0 D g qa E0 [.ref (qa b), .int p1, .int p2, .int p3, .int p4] R (fun E => E = E0) := by
  refine MI.mk (by decide) rfl (Nat.le_of_ble_eq_true rfl) ?_
  intro p e s m args below meth c ls Q X hret hP hS hl
  have hl : lv_has ls 9 [(0, .ref (qa b)), (1, .int p1), (2, .int p2), (3, .int p3), (4, .int p4)] := hl
  rw [fX1_bears] at hf
  refine lv_aload_n X.1 X.2.1 dX1_bears_0 rfl (lv_at hl 0 rfl) ?_
  refine x_get X hP hG_n.1 (by omega) rfl in_X1_bears_X1 5 (by decide) (by decide +kernel) rfl rfl dX1_bears_1 ?_
  refine lv_iload_n X.1 X.2.1 dX1_bears_4 rfl (lv_at hl 1 rfl) ?_
  obtain ⟨hi1, hf⟩ := gin_of hf
  refine x_iald X hP hG_n.2.2.2.2.1 (by omega) hi1 dX1_bears_5 ?_
  obtain ⟨x2, ex2, hf⟩ := nm_of hf
  refine lv_top_as ex2 ?_
  refine lv_istore (lv' := [(5, .int x2), (0, .ref (qa b)), (1, .int p1), (2, .int p2), (3, .int p3), (4, .int p4)]) X.1 X.2.1 dX1_bears_6 hl (by decide) rfl (fun ls hl => ?_)
  refine lv_iconst (v := 2) X.1 X.2.1 dX1_bears_8 (by decide) ?_
  refine lv_iload X.1 X.2.1 dX1_bears_9 (lv_at hl 0 rfl) ?_
  refine lv_imul X.1 X.2.1 dX1_bears_11 ?_
  obtain ⟨x3, ex3, hf⟩ := nm_of hf
  refine lv_top_as ex3 ?_
  refine lv_istore (lv' := [(6, .int x3), (5, .int x2), (0, .ref (qa b)), (1, .int p1), (2, .int p2), (3, .int p3), (4, .int p4)]) X.1 X.2.1 dX1_bears_12 hl (by decide) rfl (fun ls hl => ?_)
  refine lv_iload X.1 X.2.1 dX1_bears_14 (lv_at hl 6 rfl) ?_
  refine lv_iconst (v := 2) X.1 X.2.1 dX1_bears_16 (by decide) ?_
  refine lv_irem X.1 X.2.1 dX1_bears_17 (by decide) ?_
  refine lv_if_ne (tgt := 26) X.1 X.2.1 dX1_bears_18 (by decide) (fun c4 => ?_) (fun c4 => ?_)
  · have hf := ifn hf c4
    refine lv_iload X.1 X.2.1 dX1_bears_26 (lv_at hl 1 rfl) ?_
    refine lv_iconst (v := 3) X.1 X.2.1 dX1_bears_28 (by decide) ?_
    refine lv_iadd X.1 X.2.1 dX1_bears_29 ?_
    obtain ⟨x5, ex5, hf⟩ := nm_of hf
    refine lv_top_as ex5 ?_
    refine lv_istore (lv' := [(7, .int x5), (6, .int x3), (5, .int x2), (0, .ref (qa b)), (1, .int p1), (2, .int p2), (3, .int p3), (4, .int p4)]) X.1 X.2.1 dX1_bears_30 hl (by decide) rfl (fun ls hl => ?_)
    refine lv_aload_n X.1 X.2.1 dX1_bears_32 rfl (lv_at hl 3 rfl) ?_
    refine x_get X hP hG_n.1 (by omega) rfl in_X1_bears_X1 4 (by decide) (by decide +kernel) rfl rfl dX1_bears_33 ?_
    refine lv_iload_n X.1 X.2.1 dX1_bears_36 rfl (lv_at hl 4 rfl) ?_
    obtain ⟨hi6, hf⟩ := gin_of hf
    refine x_iald X hP hG_n.2.2.2.1 (by omega) hi6 dX1_bears_37 ?_
    by_cases w7 : (ki_n (Int32.toNatClampNeg p1)) = 1
    · have hf := ifp hf w7
      refine lv_tableIn (tgt := 68) X.1 X.2.1 dX1_bears_38 (by rw [w7]; decide) (by rw [w7]; decide) (off := 30) (by rw [w7]; decide) (by decide) ?_
      refine lv_iload X.1 X.2.1 dX1_bears_68 (lv_at hl 1 rfl) ?_
      refine lv_istore (lv' := [(8, .int x3), (7, .int x5), (6, .int x3), (5, .int x2), (0, .ref (qa b)), (1, .int p1), (2, .int p2), (3, .int p3), (4, .int p4)]) X.1 X.2.1 dX1_bears_70 hl (by decide) rfl (fun ls hl => ?_)
      refine lv_goto (tgt := 104) X.1 X.2.1 dX1_bears_72 (by decide) ?_
      refine lv_aload_n X.1 X.2.1 dX1_bears_104 rfl (lv_at hl 4 rfl) ?_
      refine x_get X hP hG_n.1 (by omega) rfl in_X1_bears_X1 6 (by decide) (by decide +kernel) rfl rfl dX1_bears_105 ?_
      refine lv_iload_n X.1 X.2.1 dX1_bears_108 rfl (lv_at hl 5 rfl) ?_
      obtain ⟨hi8, hf⟩ := gin_of hf
      refine x_iald X hP hG_n.2.2.2.2.2.1 (by omega) hi8 dX1_bears_109 ?_
      refine lv_iload_n X.1 X.2.1 dX1_bears_110 rfl (lv_at hl 6 rfl) ?_
      refine lv_icmp_ne (tgt := 121) X.1 X.2.1 dX1_bears_111 (by decide) (fun c9 => ?_) (fun c9 => ?_)
      · have hf := ifn hf c9
        refine lv_iload X.1 X.2.1 dX1_bears_121 (lv_at hl 0 rfl) ?_
        obtain rfl := Option.some.inj hf
        exact hret _ _ _ _ _ _ dX1_bears_123 rfl rfl (rfl) hP hS
      · have hf := ifp hf c9
        refine lv_iload X.1 X.2.1 dX1_bears_114 (lv_at hl 0 rfl) ?_
        refine lv_iconst (v := 2) X.1 X.2.1 dX1_bears_116 (by decide) ?_
        refine lv_idiv X.1 X.2.1 dX1_bears_117 (by decide) ?_
        refine lv_goto (tgt := 123) X.1 X.2.1 dX1_bears_118 (by decide) ?_
        obtain rfl := Option.some.inj hf
        exact hret _ _ _ _ _ _ dX1_bears_123 rfl rfl (rfl) hP hS
    have hf := ifn hf w7
    by_cases w10 : (ki_n (Int32.toNatClampNeg p1)) = 2
    · have hf := ifp hf w10
      refine lv_tableIn (tgt := 75) X.1 X.2.1 dX1_bears_38 (by rw [w10]; decide) (by rw [w10]; decide) (off := 37) (by rw [w10]; decide) (by decide) ?_
      refine lv_iload X.1 X.2.1 dX1_bears_75 (lv_at hl 0 rfl) ?_
      refine lv_istore (lv' := [(8, .int x5), (7, .int x5), (6, .int x3), (5, .int x2), (0, .ref (qa b)), (1, .int p1), (2, .int p2), (3, .int p3), (4, .int p4)]) X.1 X.2.1 dX1_bears_77 hl (by decide) rfl (fun ls hl => ?_)
      refine lv_goto (tgt := 104) X.1 X.2.1 dX1_bears_79 (by decide) ?_
      refine lv_aload_n X.1 X.2.1 dX1_bears_104 rfl (lv_at hl 4 rfl) ?_
      refine x_get X hP hG_n.1 (by omega) rfl in_X1_bears_X1 6 (by decide) (by decide +kernel) rfl rfl dX1_bears_105 ?_
      refine lv_iload_n X.1 X.2.1 dX1_bears_108 rfl (lv_at hl 5 rfl) ?_
      obtain ⟨hi11, hf⟩ := gin_of hf
      refine x_iald X hP hG_n.2.2.2.2.2.1 (by omega) hi11 dX1_bears_109 ?_
      refine lv_iload_n X.1 X.2.1 dX1_bears_110 rfl (lv_at hl 6 rfl) ?_
      refine lv_icmp_ne (tgt := 121) X.1 X.2.1 dX1_bears_111 (by decide) (fun c12 => ?_) (fun c12 => ?_)
      · have hf := ifn hf c12
        refine lv_iload X.1 X.2.1 dX1_bears_121 (lv_at hl 0 rfl) ?_
        obtain rfl := Option.some.inj hf
        exact hret _ _ _ _ _ _ dX1_bears_123 rfl rfl (rfl) hP hS
      · have hf := ifp hf c12
        refine lv_iload X.1 X.2.1 dX1_bears_114 (lv_at hl 0 rfl) ?_
        refine lv_iconst (v := 2) X.1 X.2.1 dX1_bears_116 (by decide) ?_
        refine lv_idiv X.1 X.2.1 dX1_bears_117 (by decide) ?_
        refine lv_goto (tgt := 123) X.1 X.2.1 dX1_bears_118 (by decide) ?_
        obtain rfl := Option.some.inj hf
        exact hret _ _ _ _ _ _ dX1_bears_123 rfl rfl (rfl) hP hS
    have hf := ifn hf w10
    by_cases w13 : (ki_n (Int32.toNatClampNeg p1)) = 3
    · have hf := ifp hf w13
      refine lv_tableIn (tgt := 82) X.1 X.2.1 dX1_bears_38 (by rw [w13]; decide) (by rw [w13]; decide) (off := 44) (by rw [w13]; decide) (by decide) ?_
      refine lv_iload X.1 X.2.1 dX1_bears_82 (lv_at hl 1 rfl) ?_
      refine lv_iload_n X.1 X.2.1 dX1_bears_84 rfl (lv_at hl 6 rfl) ?_
      refine lv_iadd X.1 X.2.1 dX1_bears_85 ?_
      obtain ⟨x14, ex14, hf⟩ := nm_of hf
      refine lv_top_as ex14 ?_
      refine lv_istore (lv' := [(8, .int x14), (7, .int x5), (6, .int x3), (5, .int x2), (0, .ref (qa b)), (1, .int p1), (2, .int p2), (3, .int p3), (4, .int p4)]) X.1 X.2.1 dX1_bears_86 hl (by decide) rfl (fun ls hl => ?_)
      refine lv_goto (tgt := 104) X.1 X.2.1 dX1_bears_88 (by decide) ?_
      refine lv_aload_n X.1 X.2.1 dX1_bears_104 rfl (lv_at hl 4 rfl) ?_
      refine x_get X hP hG_n.1 (by omega) rfl in_X1_bears_X1 6 (by decide) (by decide +kernel) rfl rfl dX1_bears_105 ?_
      refine lv_iload_n X.1 X.2.1 dX1_bears_108 rfl (lv_at hl 5 rfl) ?_
      obtain ⟨hi15, hf⟩ := gin_of hf
      refine x_iald X hP hG_n.2.2.2.2.2.1 (by omega) hi15 dX1_bears_109 ?_
      refine lv_iload_n X.1 X.2.1 dX1_bears_110 rfl (lv_at hl 6 rfl) ?_
      refine lv_icmp_ne (tgt := 121) X.1 X.2.1 dX1_bears_111 (by decide) (fun c16 => ?_) (fun c16 => ?_)
      · have hf := ifn hf c16
        refine lv_iload X.1 X.2.1 dX1_bears_121 (lv_at hl 0 rfl) ?_
        obtain rfl := Option.some.inj hf
        exact hret _ _ _ _ _ _ dX1_bears_123 rfl rfl (rfl) hP hS
      · have hf := ifp hf c16
        refine lv_iload X.1 X.2.1 dX1_bears_114 (lv_at hl 0 rfl) ?_
        refine lv_iconst (v := 2) X.1 X.2.1 dX1_bears_116 (by decide) ?_
        refine lv_idiv X.1 X.2.1 dX1_bears_117 (by decide) ?_
        refine lv_goto (tgt := 123) X.1 X.2.1 dX1_bears_118 (by decide) ?_
        obtain rfl := Option.some.inj hf
        exact hret _ _ _ _ _ _ dX1_bears_123 rfl rfl (rfl) hP hS
    have hf := ifn hf w13
    by_cases w17 : (ki_n (Int32.toNatClampNeg p1)) = 4
    · have hf := ifp hf w17
      refine lv_tableIn (tgt := 91) X.1 X.2.1 dX1_bears_38 (by rw [w17]; decide) (by rw [w17]; decide) (off := 53) (by rw [w17]; decide) (by decide) ?_
      refine lv_iload X.1 X.2.1 dX1_bears_91 (lv_at hl 0 rfl) ?_
      refine lv_iconst (v := 2) X.1 X.2.1 dX1_bears_93 (by decide) ?_
      refine lv_idiv X.1 X.2.1 dX1_bears_94 (by decide) ?_
      obtain ⟨x18, ex18, hf⟩ := nm_of hf
      refine lv_top_as ex18 ?_
      refine lv_istore (lv' := [(8, .int x18), (7, .int x5), (6, .int x3), (5, .int x2), (0, .ref (qa b)), (1, .int p1), (2, .int p2), (3, .int p3), (4, .int p4)]) X.1 X.2.1 dX1_bears_95 hl (by decide) rfl (fun ls hl => ?_)
      refine lv_goto (tgt := 104) X.1 X.2.1 dX1_bears_97 (by decide) ?_
      refine lv_aload_n X.1 X.2.1 dX1_bears_104 rfl (lv_at hl 4 rfl) ?_
      refine x_get X hP hG_n.1 (by omega) rfl in_X1_bears_X1 6 (by decide) (by decide +kernel) rfl rfl dX1_bears_105 ?_
      refine lv_iload_n X.1 X.2.1 dX1_bears_108 rfl (lv_at hl 5 rfl) ?_
      obtain ⟨hi19, hf⟩ := gin_of hf
      refine x_iald X hP hG_n.2.2.2.2.2.1 (by omega) hi19 dX1_bears_109 ?_
      refine lv_iload_n X.1 X.2.1 dX1_bears_110 rfl (lv_at hl 6 rfl) ?_
      refine lv_icmp_ne (tgt := 121) X.1 X.2.1 dX1_bears_111 (by decide) (fun c20 => ?_) (fun c20 => ?_)
      · have hf := ifn hf c20
        refine lv_iload X.1 X.2.1 dX1_bears_121 (lv_at hl 0 rfl) ?_
        obtain rfl := Option.some.inj hf
        exact hret _ _ _ _ _ _ dX1_bears_123 rfl rfl (rfl) hP hS
      · have hf := ifp hf c20
        refine lv_iload X.1 X.2.1 dX1_bears_114 (lv_at hl 0 rfl) ?_
        refine lv_iconst (v := 2) X.1 X.2.1 dX1_bears_116 (by decide) ?_
        refine lv_idiv X.1 X.2.1 dX1_bears_117 (by decide) ?_
        refine lv_goto (tgt := 123) X.1 X.2.1 dX1_bears_118 (by decide) ?_
        obtain rfl := Option.some.inj hf
        exact hret _ _ _ _ _ _ dX1_bears_123 rfl rfl (rfl) hP hS
    have hf := ifn hf w17
    refine lv_tableOut (tgt := 100) X.1 X.2.1 dX1_bears_38 (by have := i_ne 1 (1) (by decide) w7; have := i_ne 2 (2) (by decide) w10; have := i_ne 3 (3) (by decide) w13; have := i_ne 4 (4) (by decide) w17; omega) (by decide) ?_
    refine lv_iload X.1 X.2.1 dX1_bears_100 (lv_at hl 2 rfl) ?_
    refine lv_istore (lv' := [(8, .int x2), (7, .int x5), (6, .int x3), (5, .int x2), (0, .ref (qa b)), (1, .int p1), (2, .int p2), (3, .int p3), (4, .int p4)]) X.1 X.2.1 dX1_bears_102 hl (by decide) rfl (fun ls hl => ?_)
    refine lv_aload_n X.1 X.2.1 dX1_bears_104 rfl (lv_at hl 4 rfl) ?_
    refine x_get X hP hG_n.1 (by omega) rfl in_X1_bears_X1 6 (by decide) (by decide +kernel) rfl rfl dX1_bears_105 ?_
    refine lv_iload_n X.1 X.2.1 dX1_bears_108 rfl (lv_at hl 5 rfl) ?_
    obtain ⟨hi21, hf⟩ := gin_of hf
    refine x_iald X hP hG_n.2.2.2.2.2.1 (by omega) hi21 dX1_bears_109 ?_
    refine lv_iload_n X.1 X.2.1 dX1_bears_110 rfl (lv_at hl 6 rfl) ?_
    refine lv_icmp_ne (tgt := 121) X.1 X.2.1 dX1_bears_111 (by decide) (fun c22 => ?_) (fun c22 => ?_)
    · have hf := ifn hf c22
      refine lv_iload X.1 X.2.1 dX1_bears_121 (lv_at hl 0 rfl) ?_
      obtain rfl := Option.some.inj hf
      exact hret _ _ _ _ _ _ dX1_bears_123 rfl rfl (rfl) hP hS
    · have hf := ifp hf c22
      refine lv_iload X.1 X.2.1 dX1_bears_114 (lv_at hl 0 rfl) ?_
      refine lv_iconst (v := 2) X.1 X.2.1 dX1_bears_116 (by decide) ?_
      refine lv_idiv X.1 X.2.1 dX1_bears_117 (by decide) ?_
      refine lv_goto (tgt := 123) X.1 X.2.1 dX1_bears_118 (by decide) ?_
      obtain rfl := Option.some.inj hf
      exact hret _ _ _ _ _ _ dX1_bears_123 rfl rfl (rfl) hP hS
  · have hf := ifp hf c4
    refine lv_iload X.1 X.2.1 dX1_bears_21 (lv_at hl 1 rfl) ?_
    refine lv_goto (tgt := 30) X.1 X.2.1 dX1_bears_23 (by decide) ?_
    refine lv_istore (lv' := [(7, .int x2), (6, .int x3), (5, .int x2), (0, .ref (qa b)), (1, .int p1), (2, .int p2), (3, .int p3), (4, .int p4)]) X.1 X.2.1 dX1_bears_30 hl (by decide) rfl (fun ls hl => ?_)
    refine lv_aload_n X.1 X.2.1 dX1_bears_32 rfl (lv_at hl 3 rfl) ?_
    refine x_get X hP hG_n.1 (by omega) rfl in_X1_bears_X1 4 (by decide) (by decide +kernel) rfl rfl dX1_bears_33 ?_
    refine lv_iload_n X.1 X.2.1 dX1_bears_36 rfl (lv_at hl 4 rfl) ?_
    obtain ⟨hi23, hf⟩ := gin_of hf
    refine x_iald X hP hG_n.2.2.2.1 (by omega) hi23 dX1_bears_37 ?_
    by_cases w24 : (ki_n (Int32.toNatClampNeg p1)) = 1
    · have hf := ifp hf w24
      refine lv_tableIn (tgt := 68) X.1 X.2.1 dX1_bears_38 (by rw [w24]; decide) (by rw [w24]; decide) (off := 30) (by rw [w24]; decide) (by decide) ?_
      refine lv_iload X.1 X.2.1 dX1_bears_68 (lv_at hl 1 rfl) ?_
      refine lv_istore (lv' := [(8, .int x3), (7, .int x2), (6, .int x3), (5, .int x2), (0, .ref (qa b)), (1, .int p1), (2, .int p2), (3, .int p3), (4, .int p4)]) X.1 X.2.1 dX1_bears_70 hl (by decide) rfl (fun ls hl => ?_)
      refine lv_goto (tgt := 104) X.1 X.2.1 dX1_bears_72 (by decide) ?_
      refine lv_aload_n X.1 X.2.1 dX1_bears_104 rfl (lv_at hl 4 rfl) ?_
      refine x_get X hP hG_n.1 (by omega) rfl in_X1_bears_X1 6 (by decide) (by decide +kernel) rfl rfl dX1_bears_105 ?_
      refine lv_iload_n X.1 X.2.1 dX1_bears_108 rfl (lv_at hl 5 rfl) ?_
      obtain ⟨hi25, hf⟩ := gin_of hf
      refine x_iald X hP hG_n.2.2.2.2.2.1 (by omega) hi25 dX1_bears_109 ?_
      refine lv_iload_n X.1 X.2.1 dX1_bears_110 rfl (lv_at hl 6 rfl) ?_
      refine lv_icmp_ne (tgt := 121) X.1 X.2.1 dX1_bears_111 (by decide) (fun c26 => ?_) (fun c26 => ?_)
      · have hf := ifn hf c26
        refine lv_iload X.1 X.2.1 dX1_bears_121 (lv_at hl 0 rfl) ?_
        obtain rfl := Option.some.inj hf
        exact hret _ _ _ _ _ _ dX1_bears_123 rfl rfl (rfl) hP hS
      · have hf := ifp hf c26
        refine lv_iload X.1 X.2.1 dX1_bears_114 (lv_at hl 0 rfl) ?_
        refine lv_iconst (v := 2) X.1 X.2.1 dX1_bears_116 (by decide) ?_
        refine lv_idiv X.1 X.2.1 dX1_bears_117 (by decide) ?_
        refine lv_goto (tgt := 123) X.1 X.2.1 dX1_bears_118 (by decide) ?_
        obtain rfl := Option.some.inj hf
        exact hret _ _ _ _ _ _ dX1_bears_123 rfl rfl (rfl) hP hS
    have hf := ifn hf w24
    by_cases w27 : (ki_n (Int32.toNatClampNeg p1)) = 2
    · have hf := ifp hf w27
      refine lv_tableIn (tgt := 75) X.1 X.2.1 dX1_bears_38 (by rw [w27]; decide) (by rw [w27]; decide) (off := 37) (by rw [w27]; decide) (by decide) ?_
      refine lv_iload X.1 X.2.1 dX1_bears_75 (lv_at hl 0 rfl) ?_
      refine lv_istore (lv' := [(8, .int x2), (7, .int x2), (6, .int x3), (5, .int x2), (0, .ref (qa b)), (1, .int p1), (2, .int p2), (3, .int p3), (4, .int p4)]) X.1 X.2.1 dX1_bears_77 hl (by decide) rfl (fun ls hl => ?_)
      refine lv_goto (tgt := 104) X.1 X.2.1 dX1_bears_79 (by decide) ?_
      refine lv_aload_n X.1 X.2.1 dX1_bears_104 rfl (lv_at hl 4 rfl) ?_
      refine x_get X hP hG_n.1 (by omega) rfl in_X1_bears_X1 6 (by decide) (by decide +kernel) rfl rfl dX1_bears_105 ?_
      refine lv_iload_n X.1 X.2.1 dX1_bears_108 rfl (lv_at hl 5 rfl) ?_
      obtain ⟨hi28, hf⟩ := gin_of hf
      refine x_iald X hP hG_n.2.2.2.2.2.1 (by omega) hi28 dX1_bears_109 ?_
      refine lv_iload_n X.1 X.2.1 dX1_bears_110 rfl (lv_at hl 6 rfl) ?_
      refine lv_icmp_ne (tgt := 121) X.1 X.2.1 dX1_bears_111 (by decide) (fun c29 => ?_) (fun c29 => ?_)
      · have hf := ifn hf c29
        refine lv_iload X.1 X.2.1 dX1_bears_121 (lv_at hl 0 rfl) ?_
        obtain rfl := Option.some.inj hf
        exact hret _ _ _ _ _ _ dX1_bears_123 rfl rfl (rfl) hP hS
      · have hf := ifp hf c29
        refine lv_iload X.1 X.2.1 dX1_bears_114 (lv_at hl 0 rfl) ?_
        refine lv_iconst (v := 2) X.1 X.2.1 dX1_bears_116 (by decide) ?_
        refine lv_idiv X.1 X.2.1 dX1_bears_117 (by decide) ?_
        refine lv_goto (tgt := 123) X.1 X.2.1 dX1_bears_118 (by decide) ?_
        obtain rfl := Option.some.inj hf
        exact hret _ _ _ _ _ _ dX1_bears_123 rfl rfl (rfl) hP hS
    have hf := ifn hf w27
    by_cases w30 : (ki_n (Int32.toNatClampNeg p1)) = 3
    · have hf := ifp hf w30
      refine lv_tableIn (tgt := 82) X.1 X.2.1 dX1_bears_38 (by rw [w30]; decide) (by rw [w30]; decide) (off := 44) (by rw [w30]; decide) (by decide) ?_
      refine lv_iload X.1 X.2.1 dX1_bears_82 (lv_at hl 1 rfl) ?_
      refine lv_iload_n X.1 X.2.1 dX1_bears_84 rfl (lv_at hl 6 rfl) ?_
      refine lv_iadd X.1 X.2.1 dX1_bears_85 ?_
      obtain ⟨x31, ex31, hf⟩ := nm_of hf
      refine lv_top_as ex31 ?_
      refine lv_istore (lv' := [(8, .int x31), (7, .int x2), (6, .int x3), (5, .int x2), (0, .ref (qa b)), (1, .int p1), (2, .int p2), (3, .int p3), (4, .int p4)]) X.1 X.2.1 dX1_bears_86 hl (by decide) rfl (fun ls hl => ?_)
      refine lv_goto (tgt := 104) X.1 X.2.1 dX1_bears_88 (by decide) ?_
      refine lv_aload_n X.1 X.2.1 dX1_bears_104 rfl (lv_at hl 4 rfl) ?_
      refine x_get X hP hG_n.1 (by omega) rfl in_X1_bears_X1 6 (by decide) (by decide +kernel) rfl rfl dX1_bears_105 ?_
      refine lv_iload_n X.1 X.2.1 dX1_bears_108 rfl (lv_at hl 5 rfl) ?_
      obtain ⟨hi32, hf⟩ := gin_of hf
      refine x_iald X hP hG_n.2.2.2.2.2.1 (by omega) hi32 dX1_bears_109 ?_
      refine lv_iload_n X.1 X.2.1 dX1_bears_110 rfl (lv_at hl 6 rfl) ?_
      refine lv_icmp_ne (tgt := 121) X.1 X.2.1 dX1_bears_111 (by decide) (fun c33 => ?_) (fun c33 => ?_)
      · have hf := ifn hf c33
        refine lv_iload X.1 X.2.1 dX1_bears_121 (lv_at hl 0 rfl) ?_
        obtain rfl := Option.some.inj hf
        exact hret _ _ _ _ _ _ dX1_bears_123 rfl rfl (rfl) hP hS
      · have hf := ifp hf c33
        refine lv_iload X.1 X.2.1 dX1_bears_114 (lv_at hl 0 rfl) ?_
        refine lv_iconst (v := 2) X.1 X.2.1 dX1_bears_116 (by decide) ?_
        refine lv_idiv X.1 X.2.1 dX1_bears_117 (by decide) ?_
        refine lv_goto (tgt := 123) X.1 X.2.1 dX1_bears_118 (by decide) ?_
        obtain rfl := Option.some.inj hf
        exact hret _ _ _ _ _ _ dX1_bears_123 rfl rfl (rfl) hP hS
    have hf := ifn hf w30
    by_cases w34 : (ki_n (Int32.toNatClampNeg p1)) = 4
    · have hf := ifp hf w34
      refine lv_tableIn (tgt := 91) X.1 X.2.1 dX1_bears_38 (by rw [w34]; decide) (by rw [w34]; decide) (off := 53) (by rw [w34]; decide) (by decide) ?_
      refine lv_iload X.1 X.2.1 dX1_bears_91 (lv_at hl 0 rfl) ?_
      refine lv_iconst (v := 2) X.1 X.2.1 dX1_bears_93 (by decide) ?_
      refine lv_idiv X.1 X.2.1 dX1_bears_94 (by decide) ?_
      obtain ⟨x35, ex35, hf⟩ := nm_of hf
      refine lv_top_as ex35 ?_
      refine lv_istore (lv' := [(8, .int x35), (7, .int x2), (6, .int x3), (5, .int x2), (0, .ref (qa b)), (1, .int p1), (2, .int p2), (3, .int p3), (4, .int p4)]) X.1 X.2.1 dX1_bears_95 hl (by decide) rfl (fun ls hl => ?_)
      refine lv_goto (tgt := 104) X.1 X.2.1 dX1_bears_97 (by decide) ?_
      refine lv_aload_n X.1 X.2.1 dX1_bears_104 rfl (lv_at hl 4 rfl) ?_
      refine x_get X hP hG_n.1 (by omega) rfl in_X1_bears_X1 6 (by decide) (by decide +kernel) rfl rfl dX1_bears_105 ?_
      refine lv_iload_n X.1 X.2.1 dX1_bears_108 rfl (lv_at hl 5 rfl) ?_
      obtain ⟨hi36, hf⟩ := gin_of hf
      refine x_iald X hP hG_n.2.2.2.2.2.1 (by omega) hi36 dX1_bears_109 ?_
      refine lv_iload_n X.1 X.2.1 dX1_bears_110 rfl (lv_at hl 6 rfl) ?_
      refine lv_icmp_ne (tgt := 121) X.1 X.2.1 dX1_bears_111 (by decide) (fun c37 => ?_) (fun c37 => ?_)
      · have hf := ifn hf c37
        refine lv_iload X.1 X.2.1 dX1_bears_121 (lv_at hl 0 rfl) ?_
        obtain rfl := Option.some.inj hf
        exact hret _ _ _ _ _ _ dX1_bears_123 rfl rfl (rfl) hP hS
      · have hf := ifp hf c37
        refine lv_iload X.1 X.2.1 dX1_bears_114 (lv_at hl 0 rfl) ?_
        refine lv_iconst (v := 2) X.1 X.2.1 dX1_bears_116 (by decide) ?_
        refine lv_idiv X.1 X.2.1 dX1_bears_117 (by decide) ?_
        refine lv_goto (tgt := 123) X.1 X.2.1 dX1_bears_118 (by decide) ?_
        obtain rfl := Option.some.inj hf
        exact hret _ _ _ _ _ _ dX1_bears_123 rfl rfl (rfl) hP hS
    have hf := ifn hf w34
    refine lv_tableOut (tgt := 100) X.1 X.2.1 dX1_bears_38 (by have := i_ne 1 (1) (by decide) w24; have := i_ne 2 (2) (by decide) w27; have := i_ne 3 (3) (by decide) w30; have := i_ne 4 (4) (by decide) w34; omega) (by decide) ?_
    refine lv_iload X.1 X.2.1 dX1_bears_100 (lv_at hl 2 rfl) ?_
    refine lv_istore (lv' := [(8, .int x2), (7, .int x2), (6, .int x3), (5, .int x2), (0, .ref (qa b)), (1, .int p1), (2, .int p2), (3, .int p3), (4, .int p4)]) X.1 X.2.1 dX1_bears_102 hl (by decide) rfl (fun ls hl => ?_)
    refine lv_aload_n X.1 X.2.1 dX1_bears_104 rfl (lv_at hl 4 rfl) ?_
    refine x_get X hP hG_n.1 (by omega) rfl in_X1_bears_X1 6 (by decide) (by decide +kernel) rfl rfl dX1_bears_105 ?_
    refine lv_iload_n X.1 X.2.1 dX1_bears_108 rfl (lv_at hl 5 rfl) ?_
    obtain ⟨hi38, hf⟩ := gin_of hf
    refine x_iald X hP hG_n.2.2.2.2.2.1 (by omega) hi38 dX1_bears_109 ?_
    refine lv_iload_n X.1 X.2.1 dX1_bears_110 rfl (lv_at hl 6 rfl) ?_
    refine lv_icmp_ne (tgt := 121) X.1 X.2.1 dX1_bears_111 (by decide) (fun c39 => ?_) (fun c39 => ?_)
    · have hf := ifn hf c39
      refine lv_iload X.1 X.2.1 dX1_bears_121 (lv_at hl 0 rfl) ?_
      obtain rfl := Option.some.inj hf
      exact hret _ _ _ _ _ _ dX1_bears_123 rfl rfl (rfl) hP hS
    · have hf := ifp hf c39
      refine lv_iload X.1 X.2.1 dX1_bears_114 (lv_at hl 0 rfl) ?_
      refine lv_iconst (v := 2) X.1 X.2.1 dX1_bears_116 (by decide) ?_
      refine lv_idiv X.1 X.2.1 dX1_bears_117 (by decide) ?_
      refine lv_goto (tgt := 123) X.1 X.2.1 dX1_bears_118 (by decide) ?_
      obtain rfl := Option.some.inj hf
      exact hret _ _ _ _ _ _ dX1_bears_123 rfl rfl (rfl) hP hS
def bX1_loadOfSet_14 (md_n : Int32) (ki_n : Nat → Int32) (we_n : Nat → Int32) (wo_n : Nat → Int32) (p1 : Int32) (p2 : Int32) (p3 : Int32) (x2 : Int32) (K3 : ((Int32 × Int32)) → Option Int32) : ((Int32 × Int32)) → Option Int32
  | (v5_3, v6_3) => if md_n ≤ v6_3 then (some v5_3) else (if ((p2 >>> (v6_3 &&& 31)) &&& 1) = 1 then ((fX1_bears v6_3 p1 x2 p3 ki_n we_n wo_n).bind (fun r7 => nm (v5_3 + r7) (fun x8 => nm (v6_3 + 1) (fun x9 => K3 (x8, x9))))) else (nm (v6_3 + 1) (fun x6 => K3 (v5_3, x6))))
def fX1_loadOfSet (p1 : Int32) (p2 : Int32) (p3 : Int32)  (md_n : Int32) (ki_n : Nat → Int32) (we_n : Nat → Int32) (wo_n : Nat → Int32) : Option Int32 := (fJ6_bitCount_0f7a4 p2).bind (fun r1 => nm (r1 - 1) (fun x2 => lp (bX1_loadOfSet_14 md_n ki_n we_n wo_n p1 p2 p3 x2) FU (0, 0)))
theorem in_X1_loadOfSet_X1 : ∀ w ∈ wsX10, w ∈ wsX1_loadOfSet := by decide +kernel
set_option maxHeartbeats 4000000 in
set_option maxRecDepth 100000 in
theorem ct_X1_loadOfSet {l : Launch} {D : va_G} {g : Nat → ClassId} {qa : Nat → Nat} {E0 : Nat → va_E} {b : Nat} {p1 : Int32} {p2 : Int32} {p3 : Int32} {men_n : Int32} {md_n : Int32} {day_n : Int32} {drw_n : Int32} {bu_n : Nat → Int32} {st_n : Nat → Int32} {ki_n : Nat → Int32} {we_n : Nat → Int32} {wo_n : Nat → Int32} {wr_n : Nat → Int32} (hb_n : b + 7 ≤ 74) (hG_n : Mu g qa E0 b men_n md_n day_n drw_n bu_n st_n ki_n we_n wo_n wr_n) {R : Int32} (hf : fX1_loadOfSet p1 p2 p3 md_n ki_n we_n wo_n = some R) : MI l yX1_loadOfSet wsX1_loadOfSet 1 D g qa E0 [.ref (qa b), .int p1, .int p2, .int p3] R (fun E => E = E0) := by
  refine MI.mk (by decide) rfl (Nat.le_of_ble_eq_true rfl) ?_
  intro p e s m args below meth c ls Q X hret hP hS hl
  have hl : lv_has ls 7 [(0, .ref (qa b)), (1, .int p1), (2, .int p2), (3, .int p3)] := hl
  rw [fX1_loadOfSet] at hf
  refine lv_iload_n X.1 X.2.1 dX1_loadOfSet_0 rfl (lv_at hl 2 rfl) ?_
  obtain ⟨r1, hr1, hf⟩ := bd_of hf
  refine x_rdSi X hP hS (index := 57) (n := 1) (As := [.int p2]) (ct_J6_bitCount_0f7a4  hr1) ggX1_loadOfSet_J6_bitCount_0f7a4 (by decide +kernel) (by decide +kernel) (by decide +kernel) rfl (by decide +kernel) ⟨by decide, by decide⟩ rfl hl.1 rfl (Nat.le_of_ble_eq_true rfl) dX1_loadOfSet_1 (fun H locs hP hS => ?_)
  refine lv_iconst (v := 1) X.1 X.2.1 dX1_loadOfSet_4 (by decide) ?_
  refine lv_isub X.1 X.2.1 dX1_loadOfSet_5 ?_
  obtain ⟨x2, ex2, hf⟩ := nm_of hf
  refine lv_top_as ex2 ?_
  refine lv_istore (lv' := [(4, .int x2), (0, .ref (qa b)), (1, .int p1), (2, .int p2), (3, .int p3)]) X.1 X.2.1 dX1_loadOfSet_6 hl (by decide) rfl (fun ls hl => ?_)
  refine lv_iconst (v := 0) X.1 X.2.1 dX1_loadOfSet_8 (by decide) ?_
  refine lv_istore (lv' := [(5, .int 0), (4, .int x2), (0, .ref (qa b)), (1, .int p1), (2, .int p2), (3, .int p3)]) X.1 X.2.1 dX1_loadOfSet_9 hl (by decide) rfl (fun ls hl => ?_)
  refine lv_iconst (v := 0) X.1 X.2.1 dX1_loadOfSet_11 (by decide) ?_
  refine lv_istore (lv' := [(6, .int 0), (5, .int 0), (4, .int x2), (0, .ref (qa b)), (1, .int p1), (2, .int p2), (3, .int p3)]) X.1 X.2.1 dX1_loadOfSet_12 hl (by decide) rfl (fun ls hl => ?_)
  have lp3 : ∀ (n3 : Nat) (v5_3 : Int32) (v6_3 : Int32) (H : Heap) (locs : List Loc) (ls : Array Slot), lp (bX1_loadOfSet_14 md_n ki_n we_n wo_n p1 p2 p3 x2) n3 (v5_3, v6_3) = some R → va_P D vwCl (WD qa E0) H → va_S (gA qa s.heap.size) s.heap H locs → lv_has ls 7 [(0, .ref (qa b)), (1, .int p1), (2, .int p2), (3, .int p3), (4, .int x2), (5, .int v5_3), (6, .int v6_3)] → W p l e (rmf 1) s m args below meth c H locs 0 0 Q (F0 m 14 ls []) := by
    intro n3
    induction n3 with
    | zero =>
      intro v5_3 v6_3 H locs ls hf
      exact absurd hf (by intro h; cases h)
    | succ n3 ih3 =>
      intro v5_3 v6_3 H locs ls hf hP hS hl
      have hf : bX1_loadOfSet_14 md_n ki_n we_n wo_n p1 p2 p3 x2 (lp (bX1_loadOfSet_14 md_n ki_n we_n wo_n p1 p2 p3 x2) n3) (v5_3, v6_3) = some R := hf
      rw [bX1_loadOfSet_14] at hf
      refine lv_iload X.1 X.2.1 dX1_loadOfSet_14 (lv_at hl 6 rfl) ?_
      refine lv_aload_n X.1 X.2.1 dX1_loadOfSet_16 rfl (lv_at hl 0 rfl) ?_
      refine x_get X hP hG_n.1 (by omega) rfl in_X1_loadOfSet_X1 3 (by decide) (by decide +kernel) rfl rfl dX1_loadOfSet_17 ?_
      refine lv_icmp_ge (tgt := 54) X.1 X.2.1 dX1_loadOfSet_20 (by decide) (fun c4 => ?_) (fun c4 => ?_)
      · have hf := ifp hf c4
        refine lv_iload X.1 X.2.1 dX1_loadOfSet_54 (lv_at hl 5 rfl) ?_
        obtain rfl := Option.some.inj hf
        exact hret _ _ _ _ _ _ dX1_loadOfSet_56 rfl rfl (rfl) hP hS
      · have hf := ifn hf c4
        refine lv_iload_n X.1 X.2.1 dX1_loadOfSet_23 rfl (lv_at hl 2 rfl) ?_
        refine lv_iload X.1 X.2.1 dX1_loadOfSet_24 (lv_at hl 6 rfl) ?_
        refine lv_ishr X.1 X.2.1 dX1_loadOfSet_26 ?_
        refine lv_iconst (v := 1) X.1 X.2.1 dX1_loadOfSet_27 (by decide) ?_
        refine lv_iand X.1 X.2.1 dX1_loadOfSet_28 ?_
        refine lv_iconst (v := 1) X.1 X.2.1 dX1_loadOfSet_29 (by decide) ?_
        refine lv_icmp_ne (tgt := 48) X.1 X.2.1 dX1_loadOfSet_30 (by decide) (fun c5 => ?_) (fun c5 => ?_)
        · have hf := ifn hf c5
          obtain ⟨x6, ex6, hf⟩ := nm_of hf
          refine lv_iinc (v := x6) (lv' := [(6, .int x6), (0, .ref (qa b)), (1, .int p1), (2, .int p2), (3, .int p3), (4, .int x2), (5, .int v5_3)]) X.1 X.2.1 dX1_loadOfSet_48 hl (k := 6) rfl (by rw [ex6]; rfl) (by decide) rfl (fun ls hl => ?_)
          refine lv_goto (tgt := 14) X.1 X.2.1 dX1_loadOfSet_51 (by decide) ?_
          exact ih3 v5_3 x6 _ _ _ hf hP hS (lv_sub hl [1, 2, 3, 4, 5, 6, 0] rfl)
        · have hf := ifp hf c5
          refine lv_iload X.1 X.2.1 dX1_loadOfSet_33 (lv_at hl 5 rfl) ?_
          refine lv_aload_n X.1 X.2.1 dX1_loadOfSet_35 rfl (lv_at hl 0 rfl) ?_
          refine lv_iload X.1 X.2.1 dX1_loadOfSet_36 (lv_at hl 6 rfl) ?_
          refine lv_iload_n X.1 X.2.1 dX1_loadOfSet_38 rfl (lv_at hl 1 rfl) ?_
          refine lv_iload X.1 X.2.1 dX1_loadOfSet_39 (lv_at hl 4 rfl) ?_
          refine lv_iload_n X.1 X.2.1 dX1_loadOfSet_41 rfl (lv_at hl 3 rfl) ?_
          obtain ⟨r7, hr7, hf⟩ := bd_of hf
          refine x_rdVi X hP hS hG_n.1 (by omega) rfl (n := 4) (As := [.int v6_3, .int p1, .int x2, .int p3]) (ct_X1_bears (by omega) hG_n hr7) gX1_loadOfSet_X1_bears rfl (by decide +kernel) ⟨by decide, by decide⟩ rfl hl.1 rfl (Nat.le_of_ble_eq_true rfl) dX1_loadOfSet_42 (fun H locs hP hS => ?_)
          refine lv_iadd X.1 X.2.1 dX1_loadOfSet_45 ?_
          obtain ⟨x8, ex8, hf⟩ := nm_of hf
          refine lv_top_as ex8 ?_
          refine lv_istore (lv' := [(5, .int x8), (0, .ref (qa b)), (1, .int p1), (2, .int p2), (3, .int p3), (4, .int x2), (6, .int v6_3)]) X.1 X.2.1 dX1_loadOfSet_46 hl (by decide) rfl (fun ls hl => ?_)
          obtain ⟨x9, ex9, hf⟩ := nm_of hf
          refine lv_iinc (v := x9) (lv' := [(6, .int x9), (5, .int x8), (0, .ref (qa b)), (1, .int p1), (2, .int p2), (3, .int p3), (4, .int x2)]) X.1 X.2.1 dX1_loadOfSet_48 hl (k := 6) rfl (by rw [ex9]; rfl) (by decide) rfl (fun ls hl => ?_)
          refine lv_goto (tgt := 14) X.1 X.2.1 dX1_loadOfSet_51 (by decide) ?_
          exact ih3 x8 x9 _ _ _ hf hP hS (lv_sub hl [2, 3, 4, 5, 6, 1, 0] rfl)
  exact lp3 FU 0 0 _ _ _ hf hP hS (lv_sub hl [3, 4, 5, 6, 2, 1, 0] rfl)
def fX1_addMan (p1 : Int32) (p2 : Int32)  (men_n : Int32) (bu_n : Nat → Int32) (st_n : Nat → Int32) : Option (Int32 × Int32 × (Nat → Int32) × (Nat → Int32)) := if men_n < 5 then (gin men_n 5 (gin men_n 5 (some ((men_n + 1) - 1, men_n + 1, upd bu_n (Int32.toNatClampNeg men_n) p1, upd st_n (Int32.toNatClampNeg men_n) p2)))) else (some ((-3), men_n, bu_n, st_n))
theorem in_X1_addMan_X1 : ∀ w ∈ wsX10, w ∈ wsX1_addMan := by decide +kernel
set_option maxHeartbeats 4000000 in
set_option maxRecDepth 100000 in
theorem ct_X1_addMan {l : Launch} {D : va_G} {g : Nat → ClassId} {qa : Nat → Nat} {E0 : Nat → va_E} {b : Nat} {p1 : Int32} {p2 : Int32} {men_n : Int32} {md_n : Int32} {day_n : Int32} {drw_n : Int32} {bu_n : Nat → Int32} {st_n : Nat → Int32} {ki_n : Nat → Int32} {we_n : Nat → Int32} {wo_n : Nat → Int32} {wr_n : Nat → Int32} (hb_n : b + 7 ≤ 74) (hG_n : Mu g qa E0 b men_n md_n day_n drw_n bu_n st_n ki_n we_n wo_n wr_n) {R : (Int32 × Int32 × (Nat → Int32) × (Nat → Int32))} (hf : fX1_addMan p1 p2 men_n bu_n st_n = some R) : MI l yX1_addMan wsX1_addMan 0 D g qa E0 [.ref (qa b), .int p1, .int p2] R.1 (fun E => Mu g qa E b R.2.1 md_n day_n drw_n R.2.2.1 R.2.2.2 ki_n we_n wo_n wr_n ∧ ∀ j, (j < b ∨ b + 7 ≤ j) → E j = E0 j) := by
  refine MI.mk (by decide) rfl (Nat.le_of_ble_eq_true rfl) ?_
  intro p e s m args below meth c ls Q X hret hP hS hl
  have hl : lv_has ls 3 [(0, .ref (qa b)), (1, .int p1), (2, .int p2)] := hl
  have hfr : ∀ j, (j < b ∨ b + 7 ≤ j) → E0 j = E0 j := fun _ _ => rfl
  rw [fX1_addMan] at hf
  refine lv_aload_n X.1 X.2.1 dX1_addMan_0 rfl (lv_at hl 0 rfl) ?_
  refine x_get X hP hG_n.1 (by omega) rfl in_X1_addMan_X1 0 (by decide) (by decide +kernel) rfl rfl dX1_addMan_1 ?_
  refine lv_iconst (v := 5) X.1 X.2.1 dX1_addMan_4 (by decide) ?_
  refine lv_icmp_lt (tgt := 11) X.1 X.2.1 dX1_addMan_5 (by decide) (fun c1 => ?_) (fun c1 => ?_)
  · have hf := ifp hf c1
    refine lv_aload_n X.1 X.2.1 dX1_addMan_11 rfl (lv_at hl 0 rfl) ?_
    refine x_get X hP hG_n.1 (by omega) rfl in_X1_addMan_X1 1 (by decide) (by decide +kernel) rfl rfl dX1_addMan_12 ?_
    refine lv_aload_n X.1 X.2.1 dX1_addMan_15 rfl (lv_at hl 0 rfl) ?_
    refine x_get X hP hG_n.1 (by omega) rfl in_X1_addMan_X1 0 (by decide) (by decide +kernel) rfl rfl dX1_addMan_16 ?_
    refine lv_iload_n X.1 X.2.1 dX1_addMan_19 rfl (lv_at hl 1 rfl) ?_
    obtain ⟨hi2, hf⟩ := gin_of hf
    refine x_iast X hP hS hG_n.2.1 (by omega) hi2 dX1_addMan_20 (fun E H locs h1 hk hP hS => ?_)
    have hG_n := Mu_set_1 hG_n h1 hk
    have hfr : ∀ j, (j < b ∨ b + 7 ≤ j) → E j = E0 j := fun j o0 => (hk j (by omega)).trans (hfr j o0)
    refine lv_aload_n X.1 X.2.1 dX1_addMan_21 rfl (lv_at hl 0 rfl) ?_
    refine x_get X hP hG_n.1 (by omega) rfl in_X1_addMan_X1 2 (by decide) (by decide +kernel) rfl rfl dX1_addMan_22 ?_
    refine lv_aload_n X.1 X.2.1 dX1_addMan_25 rfl (lv_at hl 0 rfl) ?_
    refine x_get X hP hG_n.1 (by omega) rfl in_X1_addMan_X1 0 (by decide) (by decide +kernel) rfl rfl dX1_addMan_26 ?_
    refine lv_iload_n X.1 X.2.1 dX1_addMan_29 rfl (lv_at hl 2 rfl) ?_
    obtain ⟨hi3, hf⟩ := gin_of hf
    refine x_iast X hP hS hG_n.2.2.1 (by omega) hi3 dX1_addMan_30 (fun E H locs h1 hk hP hS => ?_)
    have hG_n := Mu_set_2 hG_n h1 hk
    have hfr : ∀ j, (j < b ∨ b + 7 ≤ j) → E j = E0 j := fun j o0 => (hk j (by omega)).trans (hfr j o0)
    refine lv_aload_n X.1 X.2.1 dX1_addMan_31 rfl (lv_at hl 0 rfl) ?_
    refine lv_dup X.1 X.2.1 dX1_addMan_32 rfl ?_
    refine x_get X hP hG_n.1 (by omega) rfl in_X1_addMan_X1 0 (by decide) (by decide +kernel) rfl rfl dX1_addMan_33 ?_
    refine lv_iconst (v := 1) X.1 X.2.1 dX1_addMan_36 (by decide) ?_
    refine lv_iadd X.1 X.2.1 dX1_addMan_37 ?_
    refine x_put (ty := .int) X hP hS hG_n.1 (by omega) rfl in_X1_addMan_X1 tyX1 tyX1_ok nmX1 0 (by decide) (by decide +kernel) rfl rfl (by decide +kernel) rfl rfl (Nat.le_of_ble_eq_true rfl) dX1_addMan_38 (fun E H locs h1 hk hP hS => ?_)
    have hG_n := Mu_set_0 hG_n h1 hk
    have hfr : ∀ j, (j < b ∨ b + 7 ≤ j) → E j = E0 j := fun j o0 => (hk j (by omega)).trans (hfr j o0)
    refine lv_aload_n X.1 X.2.1 dX1_addMan_41 rfl (lv_at hl 0 rfl) ?_
    refine x_get X hP hG_n.1 (by omega) rfl in_X1_addMan_X1 0 (by decide) (by decide +kernel) rfl rfl dX1_addMan_42 ?_
    refine lv_iconst (v := 1) X.1 X.2.1 dX1_addMan_45 (by decide) ?_
    refine lv_isub X.1 X.2.1 dX1_addMan_46 ?_
    obtain rfl := Option.some.inj hf
    exact hret _ _ _ _ _ _ dX1_addMan_47 rfl rfl (⟨hG_n, hfr⟩) hP hS
  · have hf := ifn hf c1
    refine lv_bipush (v := (-3)) X.1 X.2.1 dX1_addMan_8 (by decide) ?_
    obtain rfl := Option.some.inj hf
    exact hret _ _ _ _ _ _ dX1_addMan_10 rfl rfl (⟨hG_n, hfr⟩) hP hS
def fX1_addMedal (p1 : Int32) (p2 : Int32) (p3 : Int32) (p4 : Int32)  (md_n : Int32) (ki_n : Nat → Int32) (we_n : Nat → Int32) (wo_n : Nat → Int32) (wr_n : Nat → Int32) : Option (Int32 × Int32 × (Nat → Int32) × (Nat → Int32) × (Nat → Int32) × (Nat → Int32)) := if md_n < 6 then (gin md_n 6 (gin md_n 6 (gin md_n 6 (gin md_n 6 (some ((md_n + 1) - 1, md_n + 1, upd ki_n (Int32.toNatClampNeg md_n) p1, upd we_n (Int32.toNatClampNeg md_n) p2, upd wo_n (Int32.toNatClampNeg md_n) p3, upd wr_n (Int32.toNatClampNeg md_n) p4)))))) else (some ((-3), md_n, ki_n, we_n, wo_n, wr_n))
theorem in_X1_addMedal_X1 : ∀ w ∈ wsX10, w ∈ wsX1_addMedal := by decide +kernel
set_option maxHeartbeats 4000000 in
set_option maxRecDepth 100000 in
theorem ct_X1_addMedal {l : Launch} {D : va_G} {g : Nat → ClassId} {qa : Nat → Nat} {E0 : Nat → va_E} {b : Nat} {p1 : Int32} {p2 : Int32} {p3 : Int32} {p4 : Int32} {men_n : Int32} {md_n : Int32} {day_n : Int32} {drw_n : Int32} {bu_n : Nat → Int32} {st_n : Nat → Int32} {ki_n : Nat → Int32} {we_n : Nat → Int32} {wo_n : Nat → Int32} {wr_n : Nat → Int32} (hb_n : b + 7 ≤ 74) (hG_n : Mu g qa E0 b men_n md_n day_n drw_n bu_n st_n ki_n we_n wo_n wr_n) {R : (Int32 × Int32 × (Nat → Int32) × (Nat → Int32) × (Nat → Int32) × (Nat → Int32))} (hf : fX1_addMedal p1 p2 p3 p4 md_n ki_n we_n wo_n wr_n = some R) : MI l yX1_addMedal wsX1_addMedal 0 D g qa E0 [.ref (qa b), .int p1, .int p2, .int p3, .int p4] R.1 (fun E => Mu g qa E b men_n R.2.1 day_n drw_n bu_n st_n R.2.2.1 R.2.2.2.1 R.2.2.2.2.1 R.2.2.2.2.2 ∧ ∀ j, (j < b ∨ b + 7 ≤ j) → E j = E0 j) := by
  refine MI.mk (by decide) rfl (Nat.le_of_ble_eq_true rfl) ?_
  intro p e s m args below meth c ls Q X hret hP hS hl
  have hl : lv_has ls 5 [(0, .ref (qa b)), (1, .int p1), (2, .int p2), (3, .int p3), (4, .int p4)] := hl
  have hfr : ∀ j, (j < b ∨ b + 7 ≤ j) → E0 j = E0 j := fun _ _ => rfl
  rw [fX1_addMedal] at hf
  refine lv_aload_n X.1 X.2.1 dX1_addMedal_0 rfl (lv_at hl 0 rfl) ?_
  refine x_get X hP hG_n.1 (by omega) rfl in_X1_addMedal_X1 3 (by decide) (by decide +kernel) rfl rfl dX1_addMedal_1 ?_
  refine lv_bipush (v := 6) X.1 X.2.1 dX1_addMedal_4 (by decide) ?_
  refine lv_icmp_lt (tgt := 12) X.1 X.2.1 dX1_addMedal_6 (by decide) (fun c1 => ?_) (fun c1 => ?_)
  · have hf := ifp hf c1
    refine lv_aload_n X.1 X.2.1 dX1_addMedal_12 rfl (lv_at hl 0 rfl) ?_
    refine x_get X hP hG_n.1 (by omega) rfl in_X1_addMedal_X1 4 (by decide) (by decide +kernel) rfl rfl dX1_addMedal_13 ?_
    refine lv_aload_n X.1 X.2.1 dX1_addMedal_16 rfl (lv_at hl 0 rfl) ?_
    refine x_get X hP hG_n.1 (by omega) rfl in_X1_addMedal_X1 3 (by decide) (by decide +kernel) rfl rfl dX1_addMedal_17 ?_
    refine lv_iload_n X.1 X.2.1 dX1_addMedal_20 rfl (lv_at hl 1 rfl) ?_
    obtain ⟨hi2, hf⟩ := gin_of hf
    refine x_iast X hP hS hG_n.2.2.2.1 (by omega) hi2 dX1_addMedal_21 (fun E H locs h1 hk hP hS => ?_)
    have hG_n := Mu_set_3 hG_n h1 hk
    have hfr : ∀ j, (j < b ∨ b + 7 ≤ j) → E j = E0 j := fun j o0 => (hk j (by omega)).trans (hfr j o0)
    refine lv_aload_n X.1 X.2.1 dX1_addMedal_22 rfl (lv_at hl 0 rfl) ?_
    refine x_get X hP hG_n.1 (by omega) rfl in_X1_addMedal_X1 5 (by decide) (by decide +kernel) rfl rfl dX1_addMedal_23 ?_
    refine lv_aload_n X.1 X.2.1 dX1_addMedal_26 rfl (lv_at hl 0 rfl) ?_
    refine x_get X hP hG_n.1 (by omega) rfl in_X1_addMedal_X1 3 (by decide) (by decide +kernel) rfl rfl dX1_addMedal_27 ?_
    refine lv_iload_n X.1 X.2.1 dX1_addMedal_30 rfl (lv_at hl 2 rfl) ?_
    obtain ⟨hi3, hf⟩ := gin_of hf
    refine x_iast X hP hS hG_n.2.2.2.2.1 (by omega) hi3 dX1_addMedal_31 (fun E H locs h1 hk hP hS => ?_)
    have hG_n := Mu_set_4 hG_n h1 hk
    have hfr : ∀ j, (j < b ∨ b + 7 ≤ j) → E j = E0 j := fun j o0 => (hk j (by omega)).trans (hfr j o0)
    refine lv_aload_n X.1 X.2.1 dX1_addMedal_32 rfl (lv_at hl 0 rfl) ?_
    refine x_get X hP hG_n.1 (by omega) rfl in_X1_addMedal_X1 6 (by decide) (by decide +kernel) rfl rfl dX1_addMedal_33 ?_
    refine lv_aload_n X.1 X.2.1 dX1_addMedal_36 rfl (lv_at hl 0 rfl) ?_
    refine x_get X hP hG_n.1 (by omega) rfl in_X1_addMedal_X1 3 (by decide) (by decide +kernel) rfl rfl dX1_addMedal_37 ?_
    refine lv_iload_n X.1 X.2.1 dX1_addMedal_40 rfl (lv_at hl 3 rfl) ?_
    obtain ⟨hi4, hf⟩ := gin_of hf
    refine x_iast X hP hS hG_n.2.2.2.2.2.1 (by omega) hi4 dX1_addMedal_41 (fun E H locs h1 hk hP hS => ?_)
    have hG_n := Mu_set_5 hG_n h1 hk
    have hfr : ∀ j, (j < b ∨ b + 7 ≤ j) → E j = E0 j := fun j o0 => (hk j (by omega)).trans (hfr j o0)
    refine lv_aload_n X.1 X.2.1 dX1_addMedal_42 rfl (lv_at hl 0 rfl) ?_
    refine x_get X hP hG_n.1 (by omega) rfl in_X1_addMedal_X1 7 (by decide) (by decide +kernel) rfl rfl dX1_addMedal_43 ?_
    refine lv_aload_n X.1 X.2.1 dX1_addMedal_46 rfl (lv_at hl 0 rfl) ?_
    refine x_get X hP hG_n.1 (by omega) rfl in_X1_addMedal_X1 3 (by decide) (by decide +kernel) rfl rfl dX1_addMedal_47 ?_
    refine lv_iload X.1 X.2.1 dX1_addMedal_50 (lv_at hl 4 rfl) ?_
    obtain ⟨hi5, hf⟩ := gin_of hf
    refine x_iast X hP hS hG_n.2.2.2.2.2.2 (by omega) hi5 dX1_addMedal_52 (fun E H locs h1 hk hP hS => ?_)
    have hG_n := Mu_set_6 hG_n h1 hk
    have hfr : ∀ j, (j < b ∨ b + 7 ≤ j) → E j = E0 j := fun j o0 => (hk j (by omega)).trans (hfr j o0)
    refine lv_aload_n X.1 X.2.1 dX1_addMedal_53 rfl (lv_at hl 0 rfl) ?_
    refine lv_dup X.1 X.2.1 dX1_addMedal_54 rfl ?_
    refine x_get X hP hG_n.1 (by omega) rfl in_X1_addMedal_X1 3 (by decide) (by decide +kernel) rfl rfl dX1_addMedal_55 ?_
    refine lv_iconst (v := 1) X.1 X.2.1 dX1_addMedal_58 (by decide) ?_
    refine lv_iadd X.1 X.2.1 dX1_addMedal_59 ?_
    refine x_put (ty := .int) X hP hS hG_n.1 (by omega) rfl in_X1_addMedal_X1 tyX1 tyX1_ok nmX1 3 (by decide) (by decide +kernel) rfl rfl (by decide +kernel) rfl rfl (Nat.le_of_ble_eq_true rfl) dX1_addMedal_60 (fun E H locs h1 hk hP hS => ?_)
    have hG_n := Mu_set_0 hG_n h1 hk
    have hfr : ∀ j, (j < b ∨ b + 7 ≤ j) → E j = E0 j := fun j o0 => (hk j (by omega)).trans (hfr j o0)
    refine lv_aload_n X.1 X.2.1 dX1_addMedal_63 rfl (lv_at hl 0 rfl) ?_
    refine x_get X hP hG_n.1 (by omega) rfl in_X1_addMedal_X1 3 (by decide) (by decide +kernel) rfl rfl dX1_addMedal_64 ?_
    refine lv_iconst (v := 1) X.1 X.2.1 dX1_addMedal_67 (by decide) ?_
    refine lv_isub X.1 X.2.1 dX1_addMedal_68 ?_
    obtain rfl := Option.some.inj hf
    exact hret _ _ _ _ _ _ dX1_addMedal_69 rfl rfl (⟨hG_n, hfr⟩) hP hS
  · have hf := ifn hf c1
    refine lv_bipush (v := (-3)) X.1 X.2.1 dX1_addMedal_9 (by decide) ?_
    obtain rfl := Option.some.inj hf
    exact hret _ _ _ _ _ _ dX1_addMedal_11 rfl rfl (⟨hG_n, hfr⟩) hP hS
def fX1_loadOn (p1 : Int32) (p2 : Int32)  (md_n : Int32) (ki_n : Nat → Int32) (we_n : Nat → Int32) (wo_n : Nat → Int32) (wr_n : Nat → Int32) : Option Int32 := (fX1_wornBy p1 md_n wr_n).bind (fun r1 => (fX1_loadOfSet p1 r1 p2 md_n ki_n we_n wo_n).bind (fun r2 => some r2))
theorem in_X1_loadOn_X1 : ∀ w ∈ wsX10, w ∈ wsX1_loadOn := by decide +kernel
set_option maxHeartbeats 4000000 in
set_option maxRecDepth 100000 in
theorem ct_X1_loadOn {l : Launch} {D : va_G} {g : Nat → ClassId} {qa : Nat → Nat} {E0 : Nat → va_E} {b : Nat} {p1 : Int32} {p2 : Int32} {men_n : Int32} {md_n : Int32} {day_n : Int32} {drw_n : Int32} {bu_n : Nat → Int32} {st_n : Nat → Int32} {ki_n : Nat → Int32} {we_n : Nat → Int32} {wo_n : Nat → Int32} {wr_n : Nat → Int32} (hb_n : b + 7 ≤ 74) (hG_n : Mu g qa E0 b men_n md_n day_n drw_n bu_n st_n ki_n we_n wo_n wr_n) {R : Int32} (hf : fX1_loadOn p1 p2 md_n ki_n we_n wo_n wr_n = some R) : MI l yX1_loadOn wsX1_loadOn 2 D g qa E0 [.ref (qa b), .int p1, .int p2] R (fun E => E = E0) := by
  refine MI.mk (by decide) rfl (Nat.le_of_ble_eq_true rfl) ?_
  intro p e s m args below meth c ls Q X hret hP hS hl
  have hl : lv_has ls 3 [(0, .ref (qa b)), (1, .int p1), (2, .int p2)] := hl
  rw [fX1_loadOn] at hf
  refine lv_aload_n X.1 X.2.1 dX1_loadOn_0 rfl (lv_at hl 0 rfl) ?_
  refine lv_iload_n X.1 X.2.1 dX1_loadOn_1 rfl (lv_at hl 1 rfl) ?_
  refine lv_aload_n X.1 X.2.1 dX1_loadOn_2 rfl (lv_at hl 0 rfl) ?_
  refine lv_iload_n X.1 X.2.1 dX1_loadOn_3 rfl (lv_at hl 1 rfl) ?_
  obtain ⟨r1, hr1, hf⟩ := bd_of hf
  refine x_rdVi X hP hS hG_n.1 (by omega) rfl (n := 1) (As := [.int p1]) (ct_X1_wornBy (by omega) hG_n hr1) gX1_loadOn_X1_wornBy rfl (by decide +kernel) ⟨by decide, by decide⟩ rfl hl.1 rfl (Nat.le_of_ble_eq_true rfl) dX1_loadOn_4 (fun H locs hP hS => ?_)
  refine lv_iload_n X.1 X.2.1 dX1_loadOn_7 rfl (lv_at hl 2 rfl) ?_
  obtain ⟨r2, hr2, hf⟩ := bd_of hf
  refine x_rdVi X hP hS hG_n.1 (by omega) rfl (n := 3) (As := [.int p1, .int r1, .int p2]) (ct_X1_loadOfSet (by omega) hG_n hr2) gX1_loadOn_X1_loadOfSet rfl (by decide +kernel) ⟨by decide, by decide⟩ rfl hl.1 rfl (Nat.le_of_ble_eq_true rfl) dX1_loadOn_8 (fun H locs hP hS => ?_)
  obtain rfl := Option.some.inj hf
  exact hret _ _ _ _ _ _ dX1_loadOn_11 rfl rfl (rfl) hP hS
def fX1_isBent (p1 : Int32)  (md_n : Int32) (day_n : Int32) (st_n : Nat → Int32) (ki_n : Nat → Int32) (we_n : Nat → Int32) (wo_n : Nat → Int32) (wr_n : Nat → Int32) : Option Int32 := (fX1_loadOn p1 day_n md_n ki_n we_n wo_n wr_n).bind (fun r1 => gin p1 5 (if r1 ≤ (st_n (Int32.toNatClampNeg p1)) then (some 0) else (some 1)))
theorem in_X1_isBent_X1 : ∀ w ∈ wsX10, w ∈ wsX1_isBent := by decide +kernel
set_option maxHeartbeats 4000000 in
set_option maxRecDepth 100000 in
theorem ct_X1_isBent {l : Launch} {D : va_G} {g : Nat → ClassId} {qa : Nat → Nat} {E0 : Nat → va_E} {b : Nat} {p1 : Int32} {men_n : Int32} {md_n : Int32} {day_n : Int32} {drw_n : Int32} {bu_n : Nat → Int32} {st_n : Nat → Int32} {ki_n : Nat → Int32} {we_n : Nat → Int32} {wo_n : Nat → Int32} {wr_n : Nat → Int32} (hb_n : b + 7 ≤ 74) (hG_n : Mu g qa E0 b men_n md_n day_n drw_n bu_n st_n ki_n we_n wo_n wr_n) {R : Int32} (hf : fX1_isBent p1 md_n day_n st_n ki_n we_n wo_n wr_n = some R) : MI l yX1_isBent wsX1_isBent 3 D g qa E0 [.ref (qa b), .int p1] R (fun E => E = E0) := by
  refine MI.mk (by decide) rfl (Nat.le_of_ble_eq_true rfl) ?_
  intro p e s m args below meth c ls Q X hret hP hS hl
  have hl : lv_has ls 2 [(0, .ref (qa b)), (1, .int p1)] := hl
  rw [fX1_isBent] at hf
  refine lv_aload_n X.1 X.2.1 dX1_isBent_0 rfl (lv_at hl 0 rfl) ?_
  refine lv_iload_n X.1 X.2.1 dX1_isBent_1 rfl (lv_at hl 1 rfl) ?_
  refine lv_aload_n X.1 X.2.1 dX1_isBent_2 rfl (lv_at hl 0 rfl) ?_
  refine x_get X hP hG_n.1 (by omega) rfl in_X1_isBent_X1 8 (by decide) (by decide +kernel) rfl rfl dX1_isBent_3 ?_
  obtain ⟨r1, hr1, hf⟩ := bd_of hf
  refine x_rdVi X hP hS hG_n.1 (by omega) rfl (n := 2) (As := [.int p1, .int day_n]) (ct_X1_loadOn (by omega) hG_n hr1) gX1_isBent_X1_loadOn rfl (by decide +kernel) ⟨by decide, by decide⟩ rfl hl.1 rfl (Nat.le_of_ble_eq_true rfl) dX1_isBent_6 (fun H locs hP hS => ?_)
  refine lv_aload_n X.1 X.2.1 dX1_isBent_9 rfl (lv_at hl 0 rfl) ?_
  refine x_get X hP hG_n.1 (by omega) rfl in_X1_isBent_X1 2 (by decide) (by decide +kernel) rfl rfl dX1_isBent_10 ?_
  refine lv_iload_n X.1 X.2.1 dX1_isBent_13 rfl (lv_at hl 1 rfl) ?_
  obtain ⟨hi2, hf⟩ := gin_of hf
  refine x_iald X hP hG_n.2.2.1 (by omega) hi2 dX1_isBent_14 ?_
  refine lv_icmp_le (tgt := 22) X.1 X.2.1 dX1_isBent_15 (by decide) (fun c3 => ?_) (fun c3 => ?_)
  · have hf := ifp hf c3
    refine lv_iconst (v := 0) X.1 X.2.1 dX1_isBent_22 (by decide) ?_
    obtain rfl := Option.some.inj hf
    exact hret _ _ _ _ _ _ dX1_isBent_23 rfl rfl (rfl) hP hS
  · have hf := ifn hf c3
    refine lv_iconst (v := 1) X.1 X.2.1 dX1_isBent_18 (by decide) ?_
    refine lv_goto (tgt := 23) X.1 X.2.1 dX1_isBent_19 (by decide) ?_
    obtain rfl := Option.some.inj hf
    exact hret _ _ _ _ _ _ dX1_isBent_23 rfl rfl (rfl) hP hS
def bX1_allBent_4 (men_n : Int32) (md_n : Int32) (day_n : Int32) (st_n : Nat → Int32) (ki_n : Nat → Int32) (we_n : Nat → Int32) (wo_n : Nat → Int32) (wr_n : Nat → Int32) (K1 : ((Int32 × Int32)) → Option Int32) : ((Int32 × Int32)) → Option Int32
  | (v1_1, v2_1) => if men_n ≤ v2_1 then (some v1_1) else ((fX1_isBent v2_1 md_n day_n st_n ki_n we_n wo_n wr_n).bind (fun r3 => if r3 = 0 then (nm (v2_1 + 1) (fun x5 => K1 (v1_1, x5))) else (nm (v1_1 ||| (1 <<< (v2_1 &&& 31))) (fun x6 => nm (v2_1 + 1) (fun x7 => K1 (x6, x7))))))
def fX1_allBent   (men_n : Int32) (md_n : Int32) (day_n : Int32) (st_n : Nat → Int32) (ki_n : Nat → Int32) (we_n : Nat → Int32) (wo_n : Nat → Int32) (wr_n : Nat → Int32) : Option Int32 := lp (bX1_allBent_4 men_n md_n day_n st_n ki_n we_n wo_n wr_n) FU (0, 0)
theorem in_X1_allBent_X1 : ∀ w ∈ wsX10, w ∈ wsX1_allBent := by decide +kernel
set_option maxHeartbeats 4000000 in
set_option maxRecDepth 100000 in
theorem ct_X1_allBent {l : Launch} {D : va_G} {g : Nat → ClassId} {qa : Nat → Nat} {E0 : Nat → va_E} {b : Nat} {men_n : Int32} {md_n : Int32} {day_n : Int32} {drw_n : Int32} {bu_n : Nat → Int32} {st_n : Nat → Int32} {ki_n : Nat → Int32} {we_n : Nat → Int32} {wo_n : Nat → Int32} {wr_n : Nat → Int32} (hb_n : b + 7 ≤ 74) (hG_n : Mu g qa E0 b men_n md_n day_n drw_n bu_n st_n ki_n we_n wo_n wr_n) {R : Int32} (hf : fX1_allBent men_n md_n day_n st_n ki_n we_n wo_n wr_n = some R) : MI l yX1_allBent wsX1_allBent 4 D g qa E0 [.ref (qa b)] R (fun E => E = E0) := by
  refine MI.mk (by decide) rfl (Nat.le_of_ble_eq_true rfl) ?_
  intro p e s m args below meth c ls Q X hret hP hS hl
  have hl : lv_has ls 3 [(0, .ref (qa b))] := hl
  rw [fX1_allBent] at hf
  refine lv_iconst (v := 0) X.1 X.2.1 dX1_allBent_0 (by decide) ?_
  refine lv_istore_n (lv' := [(1, .int 0), (0, .ref (qa b))]) X.1 X.2.1 dX1_allBent_1 rfl hl (by decide) rfl (fun ls hl => ?_)
  refine lv_iconst (v := 0) X.1 X.2.1 dX1_allBent_2 (by decide) ?_
  refine lv_istore_n (lv' := [(2, .int 0), (1, .int 0), (0, .ref (qa b))]) X.1 X.2.1 dX1_allBent_3 rfl hl (by decide) rfl (fun ls hl => ?_)
  have lp1 : ∀ (n1 : Nat) (v1_1 : Int32) (v2_1 : Int32) (H : Heap) (locs : List Loc) (ls : Array Slot), lp (bX1_allBent_4 men_n md_n day_n st_n ki_n we_n wo_n wr_n) n1 (v1_1, v2_1) = some R → va_P D vwCl (WD qa E0) H → va_S (gA qa s.heap.size) s.heap H locs → lv_has ls 3 [(0, .ref (qa b)), (1, .int v1_1), (2, .int v2_1)] → W p l e (rmf 4) s m args below meth c H locs 0 0 Q (F0 m 4 ls []) := by
    intro n1
    induction n1 with
    | zero =>
      intro v1_1 v2_1 H locs ls hf
      exact absurd hf (by intro h; cases h)
    | succ n1 ih1 =>
      intro v1_1 v2_1 H locs ls hf hP hS hl
      have hf : bX1_allBent_4 men_n md_n day_n st_n ki_n we_n wo_n wr_n (lp (bX1_allBent_4 men_n md_n day_n st_n ki_n we_n wo_n wr_n) n1) (v1_1, v2_1) = some R := hf
      rw [bX1_allBent_4] at hf
      refine lv_iload_n X.1 X.2.1 dX1_allBent_4 rfl (lv_at hl 2 rfl) ?_
      refine lv_aload_n X.1 X.2.1 dX1_allBent_5 rfl (lv_at hl 0 rfl) ?_
      refine x_get X hP hG_n.1 (by omega) rfl in_X1_allBent_X1 0 (by decide) (by decide +kernel) rfl rfl dX1_allBent_6 ?_
      refine lv_icmp_ge (tgt := 32) X.1 X.2.1 dX1_allBent_9 (by decide) (fun c2 => ?_) (fun c2 => ?_)
      · have hf := ifp hf c2
        refine lv_iload_n X.1 X.2.1 dX1_allBent_32 rfl (lv_at hl 1 rfl) ?_
        obtain rfl := Option.some.inj hf
        exact hret _ _ _ _ _ _ dX1_allBent_33 rfl rfl (rfl) hP hS
      · have hf := ifn hf c2
        refine lv_aload_n X.1 X.2.1 dX1_allBent_12 rfl (lv_at hl 0 rfl) ?_
        refine lv_iload_n X.1 X.2.1 dX1_allBent_13 rfl (lv_at hl 2 rfl) ?_
        obtain ⟨r3, hr3, hf⟩ := bd_of hf
        refine x_rdVi X hP hS hG_n.1 (by omega) rfl (n := 1) (As := [.int v2_1]) (ct_X1_isBent (by omega) hG_n hr3) gX1_allBent_X1_isBent rfl (by decide +kernel) ⟨by decide, by decide⟩ rfl hl.1 rfl (Nat.le_of_ble_eq_true rfl) dX1_allBent_14 (fun H locs hP hS => ?_)
        refine lv_if_eq (tgt := 26) X.1 X.2.1 dX1_allBent_17 (by decide) (fun c4 => ?_) (fun c4 => ?_)
        · have hf := ifp hf c4
          obtain ⟨x5, ex5, hf⟩ := nm_of hf
          refine lv_iinc (v := x5) (lv' := [(2, .int x5), (0, .ref (qa b)), (1, .int v1_1)]) X.1 X.2.1 dX1_allBent_26 hl (k := 2) rfl (by rw [ex5]; rfl) (by decide) rfl (fun ls hl => ?_)
          refine lv_goto (tgt := 4) X.1 X.2.1 dX1_allBent_29 (by decide) ?_
          exact ih1 v1_1 x5 _ _ _ hf hP hS (lv_sub hl [1, 2, 0] rfl)
        · have hf := ifn hf c4
          refine lv_iload_n X.1 X.2.1 dX1_allBent_20 rfl (lv_at hl 1 rfl) ?_
          refine lv_iconst (v := 1) X.1 X.2.1 dX1_allBent_21 (by decide) ?_
          refine lv_iload_n X.1 X.2.1 dX1_allBent_22 rfl (lv_at hl 2 rfl) ?_
          refine lv_ishl X.1 X.2.1 dX1_allBent_23 ?_
          refine lv_ior X.1 X.2.1 dX1_allBent_24 ?_
          obtain ⟨x6, ex6, hf⟩ := nm_of hf
          refine lv_top_as ex6 ?_
          refine lv_istore_n (lv' := [(1, .int x6), (0, .ref (qa b)), (2, .int v2_1)]) X.1 X.2.1 dX1_allBent_25 rfl hl (by decide) rfl (fun ls hl => ?_)
          obtain ⟨x7, ex7, hf⟩ := nm_of hf
          refine lv_iinc (v := x7) (lv' := [(2, .int x7), (1, .int x6), (0, .ref (qa b))]) X.1 X.2.1 dX1_allBent_26 hl (k := 2) rfl (by rw [ex7]; rfl) (by decide) rfl (fun ls hl => ?_)
          refine lv_goto (tgt := 4) X.1 X.2.1 dX1_allBent_29 (by decide) ?_
          exact ih1 x6 x7 _ _ _ hf hP hS (lv_sub hl [2, 1, 0] rfl)
  exact lp1 FU 0 0 _ _ _ hf hP hS (lv_sub hl [2, 1, 0] rfl)
def bX1_allLoads_4 (men_n : Int32) (md_n : Int32) (day_n : Int32) (ki_n : Nat → Int32) (we_n : Nat → Int32) (wo_n : Nat → Int32) (wr_n : Nat → Int32) (K1 : ((Int32 × Int32)) → Option Int32) : ((Int32 × Int32)) → Option Int32
  | (v1_1, v2_1) => if men_n ≤ v2_1 then (some v1_1) else ((fX1_loadOn v2_1 day_n md_n ki_n we_n wo_n wr_n).bind (fun r3 => nm (v1_1 + r3) (fun x4 => nm (v2_1 + 1) (fun x5 => K1 (x4, x5)))))
def fX1_allLoads   (men_n : Int32) (md_n : Int32) (day_n : Int32) (ki_n : Nat → Int32) (we_n : Nat → Int32) (wo_n : Nat → Int32) (wr_n : Nat → Int32) : Option Int32 := lp (bX1_allLoads_4 men_n md_n day_n ki_n we_n wo_n wr_n) FU (0, 0)
theorem in_X1_allLoads_X1 : ∀ w ∈ wsX10, w ∈ wsX1_allLoads := by decide +kernel
set_option maxHeartbeats 4000000 in
set_option maxRecDepth 100000 in
theorem ct_X1_allLoads {l : Launch} {D : va_G} {g : Nat → ClassId} {qa : Nat → Nat} {E0 : Nat → va_E} {b : Nat} {men_n : Int32} {md_n : Int32} {day_n : Int32} {drw_n : Int32} {bu_n : Nat → Int32} {st_n : Nat → Int32} {ki_n : Nat → Int32} {we_n : Nat → Int32} {wo_n : Nat → Int32} {wr_n : Nat → Int32} (hb_n : b + 7 ≤ 74) (hG_n : Mu g qa E0 b men_n md_n day_n drw_n bu_n st_n ki_n we_n wo_n wr_n) {R : Int32} (hf : fX1_allLoads men_n md_n day_n ki_n we_n wo_n wr_n = some R) : MI l yX1_allLoads wsX1_allLoads 3 D g qa E0 [.ref (qa b)] R (fun E => E = E0) := by
  refine MI.mk (by decide) rfl (Nat.le_of_ble_eq_true rfl) ?_
  intro p e s m args below meth c ls Q X hret hP hS hl
  have hl : lv_has ls 3 [(0, .ref (qa b))] := hl
  rw [fX1_allLoads] at hf
  refine lv_iconst (v := 0) X.1 X.2.1 dX1_allLoads_0 (by decide) ?_
  refine lv_istore_n (lv' := [(1, .int 0), (0, .ref (qa b))]) X.1 X.2.1 dX1_allLoads_1 rfl hl (by decide) rfl (fun ls hl => ?_)
  refine lv_iconst (v := 0) X.1 X.2.1 dX1_allLoads_2 (by decide) ?_
  refine lv_istore_n (lv' := [(2, .int 0), (1, .int 0), (0, .ref (qa b))]) X.1 X.2.1 dX1_allLoads_3 rfl hl (by decide) rfl (fun ls hl => ?_)
  have lp1 : ∀ (n1 : Nat) (v1_1 : Int32) (v2_1 : Int32) (H : Heap) (locs : List Loc) (ls : Array Slot), lp (bX1_allLoads_4 men_n md_n day_n ki_n we_n wo_n wr_n) n1 (v1_1, v2_1) = some R → va_P D vwCl (WD qa E0) H → va_S (gA qa s.heap.size) s.heap H locs → lv_has ls 3 [(0, .ref (qa b)), (1, .int v1_1), (2, .int v2_1)] → W p l e (rmf 3) s m args below meth c H locs 0 0 Q (F0 m 4 ls []) := by
    intro n1
    induction n1 with
    | zero =>
      intro v1_1 v2_1 H locs ls hf
      exact absurd hf (by intro h; cases h)
    | succ n1 ih1 =>
      intro v1_1 v2_1 H locs ls hf hP hS hl
      have hf : bX1_allLoads_4 men_n md_n day_n ki_n we_n wo_n wr_n (lp (bX1_allLoads_4 men_n md_n day_n ki_n we_n wo_n wr_n) n1) (v1_1, v2_1) = some R := hf
      rw [bX1_allLoads_4] at hf
      refine lv_iload_n X.1 X.2.1 dX1_allLoads_4 rfl (lv_at hl 2 rfl) ?_
      refine lv_aload_n X.1 X.2.1 dX1_allLoads_5 rfl (lv_at hl 0 rfl) ?_
      refine x_get X hP hG_n.1 (by omega) rfl in_X1_allLoads_X1 0 (by decide) (by decide +kernel) rfl rfl dX1_allLoads_6 ?_
      refine lv_icmp_ge (tgt := 30) X.1 X.2.1 dX1_allLoads_9 (by decide) (fun c2 => ?_) (fun c2 => ?_)
      · have hf := ifp hf c2
        refine lv_iload_n X.1 X.2.1 dX1_allLoads_30 rfl (lv_at hl 1 rfl) ?_
        obtain rfl := Option.some.inj hf
        exact hret _ _ _ _ _ _ dX1_allLoads_31 rfl rfl (rfl) hP hS
      · have hf := ifn hf c2
        refine lv_iload_n X.1 X.2.1 dX1_allLoads_12 rfl (lv_at hl 1 rfl) ?_
        refine lv_aload_n X.1 X.2.1 dX1_allLoads_13 rfl (lv_at hl 0 rfl) ?_
        refine lv_iload_n X.1 X.2.1 dX1_allLoads_14 rfl (lv_at hl 2 rfl) ?_
        refine lv_aload_n X.1 X.2.1 dX1_allLoads_15 rfl (lv_at hl 0 rfl) ?_
        refine x_get X hP hG_n.1 (by omega) rfl in_X1_allLoads_X1 8 (by decide) (by decide +kernel) rfl rfl dX1_allLoads_16 ?_
        obtain ⟨r3, hr3, hf⟩ := bd_of hf
        refine x_rdVi X hP hS hG_n.1 (by omega) rfl (n := 2) (As := [.int v2_1, .int day_n]) (ct_X1_loadOn (by omega) hG_n hr3) gX1_allLoads_X1_loadOn rfl (by decide +kernel) ⟨by decide, by decide⟩ rfl hl.1 rfl (Nat.le_of_ble_eq_true rfl) dX1_allLoads_19 (fun H locs hP hS => ?_)
        refine lv_iadd X.1 X.2.1 dX1_allLoads_22 ?_
        obtain ⟨x4, ex4, hf⟩ := nm_of hf
        refine lv_top_as ex4 ?_
        refine lv_istore_n (lv' := [(1, .int x4), (0, .ref (qa b)), (2, .int v2_1)]) X.1 X.2.1 dX1_allLoads_23 rfl hl (by decide) rfl (fun ls hl => ?_)
        obtain ⟨x5, ex5, hf⟩ := nm_of hf
        refine lv_iinc (v := x5) (lv' := [(2, .int x5), (1, .int x4), (0, .ref (qa b))]) X.1 X.2.1 dX1_allLoads_24 hl (k := 2) rfl (by rw [ex5]; rfl) (by decide) rfl (fun ls hl => ?_)
        refine lv_goto (tgt := 4) X.1 X.2.1 dX1_allLoads_27 (by decide) ?_
        exact ih1 x4 x5 _ _ _ hf hP hS (lv_sub hl [2, 1, 0] rfl)
  exact lp1 FU 0 0 _ _ _ hf hP hS (lv_sub hl [2, 1, 0] rfl)
def bX1_allStrength_4 (men_n : Int32) (st_n : Nat → Int32) (K1 : ((Int32 × Int32)) → Option Int32) : ((Int32 × Int32)) → Option Int32
  | (v1_1, v2_1) => if men_n ≤ v2_1 then (some v1_1) else (gin v2_1 5 (nm (v1_1 + (st_n (Int32.toNatClampNeg v2_1))) (fun x4 => nm (v2_1 + 1) (fun x5 => K1 (x4, x5)))))
def fX1_allStrength   (men_n : Int32) (st_n : Nat → Int32) : Option Int32 := lp (bX1_allStrength_4 men_n st_n) FU (0, 0)
theorem in_X1_allStrength_X1 : ∀ w ∈ wsX10, w ∈ wsX1_allStrength := by decide +kernel
set_option maxHeartbeats 4000000 in
set_option maxRecDepth 100000 in
theorem ct_X1_allStrength {l : Launch} {D : va_G} {g : Nat → ClassId} {qa : Nat → Nat} {E0 : Nat → va_E} {b : Nat} {men_n : Int32} {md_n : Int32} {day_n : Int32} {drw_n : Int32} {bu_n : Nat → Int32} {st_n : Nat → Int32} {ki_n : Nat → Int32} {we_n : Nat → Int32} {wo_n : Nat → Int32} {wr_n : Nat → Int32} (hb_n : b + 7 ≤ 74) (hG_n : Mu g qa E0 b men_n md_n day_n drw_n bu_n st_n ki_n we_n wo_n wr_n) {R : Int32} (hf : fX1_allStrength men_n st_n = some R) : MI l yX1_allStrength wsX1_allStrength 0 D g qa E0 [.ref (qa b)] R (fun E => E = E0) := by
  refine MI.mk (by decide) rfl (Nat.le_of_ble_eq_true rfl) ?_
  intro p e s m args below meth c ls Q X hret hP hS hl
  have hl : lv_has ls 3 [(0, .ref (qa b))] := hl
  rw [fX1_allStrength] at hf
  refine lv_iconst (v := 0) X.1 X.2.1 dX1_allStrength_0 (by decide) ?_
  refine lv_istore_n (lv' := [(1, .int 0), (0, .ref (qa b))]) X.1 X.2.1 dX1_allStrength_1 rfl hl (by decide) rfl (fun ls hl => ?_)
  refine lv_iconst (v := 0) X.1 X.2.1 dX1_allStrength_2 (by decide) ?_
  refine lv_istore_n (lv' := [(2, .int 0), (1, .int 0), (0, .ref (qa b))]) X.1 X.2.1 dX1_allStrength_3 rfl hl (by decide) rfl (fun ls hl => ?_)
  have lp1 : ∀ (n1 : Nat) (v1_1 : Int32) (v2_1 : Int32) (H : Heap) (locs : List Loc) (ls : Array Slot), lp (bX1_allStrength_4 men_n st_n) n1 (v1_1, v2_1) = some R → va_P D vwCl (WD qa E0) H → va_S (gA qa s.heap.size) s.heap H locs → lv_has ls 3 [(0, .ref (qa b)), (1, .int v1_1), (2, .int v2_1)] → W p l e (rmf 0) s m args below meth c H locs 0 0 Q (F0 m 4 ls []) := by
    intro n1
    induction n1 with
    | zero =>
      intro v1_1 v2_1 H locs ls hf
      exact absurd hf (by intro h; cases h)
    | succ n1 ih1 =>
      intro v1_1 v2_1 H locs ls hf hP hS hl
      have hf : bX1_allStrength_4 men_n st_n (lp (bX1_allStrength_4 men_n st_n) n1) (v1_1, v2_1) = some R := hf
      rw [bX1_allStrength_4] at hf
      refine lv_iload_n X.1 X.2.1 dX1_allStrength_4 rfl (lv_at hl 2 rfl) ?_
      refine lv_aload_n X.1 X.2.1 dX1_allStrength_5 rfl (lv_at hl 0 rfl) ?_
      refine x_get X hP hG_n.1 (by omega) rfl in_X1_allStrength_X1 0 (by decide) (by decide +kernel) rfl rfl dX1_allStrength_6 ?_
      refine lv_icmp_ge (tgt := 27) X.1 X.2.1 dX1_allStrength_9 (by decide) (fun c2 => ?_) (fun c2 => ?_)
      · have hf := ifp hf c2
        refine lv_iload_n X.1 X.2.1 dX1_allStrength_27 rfl (lv_at hl 1 rfl) ?_
        obtain rfl := Option.some.inj hf
        exact hret _ _ _ _ _ _ dX1_allStrength_28 rfl rfl (rfl) hP hS
      · have hf := ifn hf c2
        refine lv_iload_n X.1 X.2.1 dX1_allStrength_12 rfl (lv_at hl 1 rfl) ?_
        refine lv_aload_n X.1 X.2.1 dX1_allStrength_13 rfl (lv_at hl 0 rfl) ?_
        refine x_get X hP hG_n.1 (by omega) rfl in_X1_allStrength_X1 2 (by decide) (by decide +kernel) rfl rfl dX1_allStrength_14 ?_
        refine lv_iload_n X.1 X.2.1 dX1_allStrength_17 rfl (lv_at hl 2 rfl) ?_
        obtain ⟨hi3, hf⟩ := gin_of hf
        refine x_iald X hP hG_n.2.2.1 (by omega) hi3 dX1_allStrength_18 ?_
        refine lv_iadd X.1 X.2.1 dX1_allStrength_19 ?_
        obtain ⟨x4, ex4, hf⟩ := nm_of hf
        refine lv_top_as ex4 ?_
        refine lv_istore_n (lv' := [(1, .int x4), (0, .ref (qa b)), (2, .int v2_1)]) X.1 X.2.1 dX1_allStrength_20 rfl hl (by decide) rfl (fun ls hl => ?_)
        obtain ⟨x5, ex5, hf⟩ := nm_of hf
        refine lv_iinc (v := x5) (lv' := [(2, .int x5), (1, .int x4), (0, .ref (qa b))]) X.1 X.2.1 dX1_allStrength_21 hl (k := 2) rfl (by rw [ex5]; rfl) (by decide) rfl (fun ls hl => ?_)
        refine lv_goto (tgt := 4) X.1 X.2.1 dX1_allStrength_24 (by decide) ?_
        exact ih1 x4 x5 _ _ _ hf hP hS (lv_sub hl [2, 1, 0] rfl)
  exact lp1 FU 0 0 _ _ _ hf hP hS (lv_sub hl [2, 1, 0] rfl)
def fX1_bearsNow (p1 : Int32)  (md_n : Int32) (day_n : Int32) (ki_n : Nat → Int32) (we_n : Nat → Int32) (wo_n : Nat → Int32) (wr_n : Nat → Int32) : Option Int32 := gin p1 6 (nm (wr_n (Int32.toNatClampNeg p1)) (fun x2 => if x2 = (-4) then (some 0) else ((fX1_wornBy x2 md_n wr_n).bind (fun r4 => (fJ6_bitCount_0f7a4 r4).bind (fun r5 => (fX1_bears p1 x2 (r5 - 1) day_n ki_n we_n wo_n).bind (fun r6 => some r6))))))
theorem in_X1_bearsNow_X1 : ∀ w ∈ wsX10, w ∈ wsX1_bearsNow := by decide +kernel
set_option maxHeartbeats 4000000 in
set_option maxRecDepth 100000 in
theorem ct_X1_bearsNow {l : Launch} {D : va_G} {g : Nat → ClassId} {qa : Nat → Nat} {E0 : Nat → va_E} {b : Nat} {p1 : Int32} {men_n : Int32} {md_n : Int32} {day_n : Int32} {drw_n : Int32} {bu_n : Nat → Int32} {st_n : Nat → Int32} {ki_n : Nat → Int32} {we_n : Nat → Int32} {wo_n : Nat → Int32} {wr_n : Nat → Int32} (hb_n : b + 7 ≤ 74) (hG_n : Mu g qa E0 b men_n md_n day_n drw_n bu_n st_n ki_n we_n wo_n wr_n) {R : Int32} (hf : fX1_bearsNow p1 md_n day_n ki_n we_n wo_n wr_n = some R) : MI l yX1_bearsNow wsX1_bearsNow 2 D g qa E0 [.ref (qa b), .int p1] R (fun E => E = E0) := by
  refine MI.mk (by decide) rfl (Nat.le_of_ble_eq_true rfl) ?_
  intro p e s m args below meth c ls Q X hret hP hS hl
  have hl : lv_has ls 3 [(0, .ref (qa b)), (1, .int p1)] := hl
  rw [fX1_bearsNow] at hf
  refine lv_aload_n X.1 X.2.1 dX1_bearsNow_0 rfl (lv_at hl 0 rfl) ?_
  refine x_get X hP hG_n.1 (by omega) rfl in_X1_bearsNow_X1 7 (by decide) (by decide +kernel) rfl rfl dX1_bearsNow_1 ?_
  refine lv_iload_n X.1 X.2.1 dX1_bearsNow_4 rfl (lv_at hl 1 rfl) ?_
  obtain ⟨hi1, hf⟩ := gin_of hf
  refine x_iald X hP hG_n.2.2.2.2.2.2 (by omega) hi1 dX1_bearsNow_5 ?_
  obtain ⟨x2, ex2, hf⟩ := nm_of hf
  refine lv_top_as ex2 ?_
  refine lv_istore_n (lv' := [(2, .int x2), (0, .ref (qa b)), (1, .int p1)]) X.1 X.2.1 dX1_bearsNow_6 rfl hl (by decide) rfl (fun ls hl => ?_)
  refine lv_iload_n X.1 X.2.1 dX1_bearsNow_7 rfl (lv_at hl 0 rfl) ?_
  refine lv_bipush (v := (-4)) X.1 X.2.1 dX1_bearsNow_8 (by decide) ?_
  refine lv_icmp_ne (tgt := 15) X.1 X.2.1 dX1_bearsNow_10 (by decide) (fun c3 => ?_) (fun c3 => ?_)
  · have hf := ifn hf c3
    refine lv_aload_n X.1 X.2.1 dX1_bearsNow_15 rfl (lv_at hl 1 rfl) ?_
    refine lv_iload_n X.1 X.2.1 dX1_bearsNow_16 rfl (lv_at hl 2 rfl) ?_
    refine lv_iload_n X.1 X.2.1 dX1_bearsNow_17 rfl (lv_at hl 0 rfl) ?_
    refine lv_aload_n X.1 X.2.1 dX1_bearsNow_18 rfl (lv_at hl 1 rfl) ?_
    refine lv_iload_n X.1 X.2.1 dX1_bearsNow_19 rfl (lv_at hl 0 rfl) ?_
    obtain ⟨r4, hr4, hf⟩ := bd_of hf
    refine x_rdVi X hP hS hG_n.1 (by omega) rfl (n := 1) (As := [.int x2]) (ct_X1_wornBy (by omega) hG_n hr4) gX1_bearsNow_X1_wornBy rfl (by decide +kernel) ⟨by decide, by decide⟩ rfl hl.1 rfl (Nat.le_of_ble_eq_true rfl) dX1_bearsNow_20 (fun H locs hP hS => ?_)
    obtain ⟨r5, hr5, hf⟩ := bd_of hf
    refine x_rdSi X hP hS (index := 57) (n := 1) (As := [.int r4]) (ct_J6_bitCount_0f7a4  hr5) ggX1_bearsNow_J6_bitCount_0f7a4 (by decide +kernel) (by decide +kernel) (by decide +kernel) rfl (by decide +kernel) ⟨by decide, by decide⟩ rfl hl.1 rfl (Nat.le_of_ble_eq_true rfl) dX1_bearsNow_23 (fun H locs hP hS => ?_)
    refine lv_iconst (v := 1) X.1 X.2.1 dX1_bearsNow_26 (by decide) ?_
    refine lv_isub X.1 X.2.1 dX1_bearsNow_27 ?_
    refine lv_aload_n X.1 X.2.1 dX1_bearsNow_28 rfl (lv_at hl 1 rfl) ?_
    refine x_get X hP hG_n.1 (by omega) rfl in_X1_bearsNow_X1 8 (by decide) (by decide +kernel) rfl rfl dX1_bearsNow_29 ?_
    obtain ⟨r6, hr6, hf⟩ := bd_of hf
    refine x_rdVi X hP hS hG_n.1 (by omega) rfl (n := 4) (As := [.int p1, .int x2, .int (r5 - 1), .int day_n]) (ct_X1_bears (by omega) hG_n hr6) gX1_bearsNow_X1_bears rfl (by decide +kernel) ⟨by decide, by decide⟩ rfl hl.1 rfl (Nat.le_of_ble_eq_true rfl) dX1_bearsNow_32 (fun H locs hP hS => ?_)
    obtain rfl := Option.some.inj hf
    exact hret _ _ _ _ _ _ dX1_bearsNow_35 rfl rfl (rfl) hP hS
  · have hf := ifp hf c3
    refine lv_iconst (v := 0) X.1 X.2.1 dX1_bearsNow_13 (by decide) ?_
    obtain rfl := Option.some.inj hf
    exact hret _ _ _ _ _ _ dX1_bearsNow_14 rfl rfl (rfl) hP hS
def fX5_strengthNext (p1 : Int32) (p2 : Int32) (p3 : Int32)   : Option Int32 := if p3 ≤ p1 then (some (if (p1 + 1) < p2 then p1 + 1 else p2)) else (some (if 0 < (p1 - 1) then p1 - 1 else 0))
set_option maxHeartbeats 4000000 in
set_option maxRecDepth 100000 in
theorem ct_X5_strengthNext {l : Launch} {D : va_G} {g : Nat → ClassId} {qa : Nat → Nat} {E0 : Nat → va_E} {p1 : Int32} {p2 : Int32} {p3 : Int32} {R : Int32} (hf : fX5_strengthNext p1 p2 p3 = some R) : MI l yX5_strengthNext wsX5_strengthNext 1 D g qa E0 [.int p1, .int p2, .int p3] R (fun E => E = E0) := by
  refine MI.mk (by decide) rfl (Nat.le_of_ble_eq_true rfl) ?_
  intro p e s m args below meth c ls Q X hret hP hS hl
  have hl : lv_has ls 3 [(0, .int p1), (1, .int p2), (2, .int p3)] := hl
  rw [fX5_strengthNext] at hf
  refine lv_iload_n X.1 X.2.1 dX5_strengthNext_0 rfl (lv_at hl 2 rfl) ?_
  refine lv_iload_n X.1 X.2.1 dX5_strengthNext_1 rfl (lv_at hl 0 rfl) ?_
  refine lv_icmp_le (tgt := 15) X.1 X.2.1 dX5_strengthNext_2 (by decide) (fun c1 => ?_) (fun c1 => ?_)
  · have hf := ifp hf c1
    refine lv_iload_n X.1 X.2.1 dX5_strengthNext_15 rfl (lv_at hl 1 rfl) ?_
    refine lv_iload_n X.1 X.2.1 dX5_strengthNext_16 rfl (lv_at hl 0 rfl) ?_
    refine lv_iconst (v := 1) X.1 X.2.1 dX5_strengthNext_17 (by decide) ?_
    refine lv_iadd X.1 X.2.1 dX5_strengthNext_18 ?_
    refine x_min X (index := 165) (by decide +kernel) (by decide +kernel) (by decide +kernel) (by decide +kernel) hl.1 (by decide) (Nat.le_of_ble_eq_true rfl) dX5_strengthNext_19 ?_
    obtain rfl := Option.some.inj hf
    exact hret _ _ _ _ _ _ dX5_strengthNext_22 rfl rfl (rfl) hP hS
  · have hf := ifn hf c1
    refine lv_iconst (v := 0) X.1 X.2.1 dX5_strengthNext_5 (by decide) ?_
    refine lv_iload_n X.1 X.2.1 dX5_strengthNext_6 rfl (lv_at hl 0 rfl) ?_
    refine lv_iconst (v := 1) X.1 X.2.1 dX5_strengthNext_7 (by decide) ?_
    refine lv_isub X.1 X.2.1 dX5_strengthNext_8 ?_
    refine x_max X (index := 204) (by decide +kernel) (by decide +kernel) (by decide +kernel) (by decide +kernel) hl.1 (by decide) (Nat.le_of_ble_eq_true rfl) dX5_strengthNext_9 ?_
    refine lv_goto (tgt := 22) X.1 X.2.1 dX5_strengthNext_12 (by decide) ?_
    obtain rfl := Option.some.inj hf
    exact hret _ _ _ _ _ _ dX5_strengthNext_22 rfl rfl (rfl) hP hS
def fX1_strengthAfter (p1 : Int32) (p2 : Int32) (p3 : Int32)  (md_n : Int32) (bu_n : Nat → Int32) (ki_n : Nat → Int32) (we_n : Nat → Int32) (wo_n : Nat → Int32) (wr_n : Nat → Int32) : Option Int32 := gin p1 5 ((fX1_loadOn p1 p3 md_n ki_n we_n wo_n wr_n).bind (fun r2 => (fX5_strengthNext p2 (bu_n (Int32.toNatClampNeg p1)) r2).bind (fun r3 => some r3)))
theorem in_X1_strengthAfter_X1 : ∀ w ∈ wsX10, w ∈ wsX1_strengthAfter := by decide +kernel
set_option maxHeartbeats 4000000 in
set_option maxRecDepth 100000 in
theorem ct_X1_strengthAfter {l : Launch} {D : va_G} {g : Nat → ClassId} {qa : Nat → Nat} {E0 : Nat → va_E} {b : Nat} {p1 : Int32} {p2 : Int32} {p3 : Int32} {men_n : Int32} {md_n : Int32} {day_n : Int32} {drw_n : Int32} {bu_n : Nat → Int32} {st_n : Nat → Int32} {ki_n : Nat → Int32} {we_n : Nat → Int32} {wo_n : Nat → Int32} {wr_n : Nat → Int32} (hb_n : b + 7 ≤ 74) (hG_n : Mu g qa E0 b men_n md_n day_n drw_n bu_n st_n ki_n we_n wo_n wr_n) {R : Int32} (hf : fX1_strengthAfter p1 p2 p3 md_n bu_n ki_n we_n wo_n wr_n = some R) : MI l yX1_strengthAfter wsX1_strengthAfter 3 D g qa E0 [.ref (qa b), .int p1, .int p2, .int p3] R (fun E => E = E0) := by
  refine MI.mk (by decide) rfl (Nat.le_of_ble_eq_true rfl) ?_
  intro p e s m args below meth c ls Q X hret hP hS hl
  have hl : lv_has ls 4 [(0, .ref (qa b)), (1, .int p1), (2, .int p2), (3, .int p3)] := hl
  rw [fX1_strengthAfter] at hf
  refine lv_iload_n X.1 X.2.1 dX1_strengthAfter_0 rfl (lv_at hl 2 rfl) ?_
  refine lv_aload_n X.1 X.2.1 dX1_strengthAfter_1 rfl (lv_at hl 0 rfl) ?_
  refine x_get X hP hG_n.1 (by omega) rfl in_X1_strengthAfter_X1 1 (by decide) (by decide +kernel) rfl rfl dX1_strengthAfter_2 ?_
  refine lv_iload_n X.1 X.2.1 dX1_strengthAfter_5 rfl (lv_at hl 1 rfl) ?_
  obtain ⟨hi1, hf⟩ := gin_of hf
  refine x_iald X hP hG_n.2.1 (by omega) hi1 dX1_strengthAfter_6 ?_
  refine lv_aload_n X.1 X.2.1 dX1_strengthAfter_7 rfl (lv_at hl 0 rfl) ?_
  refine lv_iload_n X.1 X.2.1 dX1_strengthAfter_8 rfl (lv_at hl 1 rfl) ?_
  refine lv_iload_n X.1 X.2.1 dX1_strengthAfter_9 rfl (lv_at hl 3 rfl) ?_
  obtain ⟨r2, hr2, hf⟩ := bd_of hf
  refine x_rdVi X hP hS hG_n.1 (by omega) rfl (n := 2) (As := [.int p1, .int p3]) (ct_X1_loadOn (by omega) hG_n hr2) gX1_strengthAfter_X1_loadOn rfl (by decide +kernel) ⟨by decide, by decide⟩ rfl hl.1 rfl (Nat.le_of_ble_eq_true rfl) dX1_strengthAfter_10 (fun H locs hP hS => ?_)
  obtain ⟨r3, hr3, hf⟩ := bd_of hf
  refine x_rdNi X hP hS (As := [.int p2, .int (bu_n (Int32.toNatClampNeg p1)), .int r2]) (ct_X5_strengthNext  hr3) ggX1_strengthAfter_X5_strengthNext (by decide +kernel) (by decide +kernel) rfl (by decide +kernel) ⟨by decide, by decide⟩ rfl hl.1 rfl (Nat.le_of_ble_eq_true rfl) dX1_strengthAfter_13 (fun H locs hP hS => ?_)
  obtain rfl := Option.some.inj hf
  exact hret _ _ _ _ _ _ dX1_strengthAfter_16 rfl rfl (rfl) hP hS
def bX1_strengthBehind_10 (md_n : Int32) (day_n : Int32) (bu_n : Nat → Int32) (ki_n : Nat → Int32) (we_n : Nat → Int32) (wo_n : Nat → Int32) (wr_n : Nat → Int32) (p1 : Int32) (p2 : Int32) (K3 : ((Int32 × Int32)) → Option Int32) : ((Int32 × Int32)) → Option Int32
  | (v3_3, v4_3) => if p2 ≤ v4_3 then (some v3_3) else ((fX1_strengthAfter p1 v3_3 (day_n + v4_3) md_n bu_n ki_n we_n wo_n wr_n).bind (fun r5 => nm (v4_3 + 1) (fun x6 => K3 (r5, x6))))
def fX1_strengthBehind (p1 : Int32) (p2 : Int32)  (md_n : Int32) (day_n : Int32) (bu_n : Nat → Int32) (st_n : Nat → Int32) (ki_n : Nat → Int32) (we_n : Nat → Int32) (wo_n : Nat → Int32) (wr_n : Nat → Int32) : Option Int32 := gin p1 5 (nm (st_n (Int32.toNatClampNeg p1)) (fun x2 => lp (bX1_strengthBehind_10 md_n day_n bu_n ki_n we_n wo_n wr_n p1 p2) FU (x2, 0)))
theorem in_X1_strengthBehind_X1 : ∀ w ∈ wsX10, w ∈ wsX1_strengthBehind := by decide +kernel
set_option maxHeartbeats 4000000 in
set_option maxRecDepth 100000 in
theorem ct_X1_strengthBehind {l : Launch} {D : va_G} {g : Nat → ClassId} {qa : Nat → Nat} {E0 : Nat → va_E} {b : Nat} {p1 : Int32} {p2 : Int32} {men_n : Int32} {md_n : Int32} {day_n : Int32} {drw_n : Int32} {bu_n : Nat → Int32} {st_n : Nat → Int32} {ki_n : Nat → Int32} {we_n : Nat → Int32} {wo_n : Nat → Int32} {wr_n : Nat → Int32} (hb_n : b + 7 ≤ 74) (hG_n : Mu g qa E0 b men_n md_n day_n drw_n bu_n st_n ki_n we_n wo_n wr_n) {R : Int32} (hf : fX1_strengthBehind p1 p2 md_n day_n bu_n st_n ki_n we_n wo_n wr_n = some R) : MI l yX1_strengthBehind wsX1_strengthBehind 4 D g qa E0 [.ref (qa b), .int p1, .int p2] R (fun E => E = E0) := by
  refine MI.mk (by decide) rfl (Nat.le_of_ble_eq_true rfl) ?_
  intro p e s m args below meth c ls Q X hret hP hS hl
  have hl : lv_has ls 5 [(0, .ref (qa b)), (1, .int p1), (2, .int p2)] := hl
  rw [fX1_strengthBehind] at hf
  refine lv_aload_n X.1 X.2.1 dX1_strengthBehind_0 rfl (lv_at hl 0 rfl) ?_
  refine x_get X hP hG_n.1 (by omega) rfl in_X1_strengthBehind_X1 2 (by decide) (by decide +kernel) rfl rfl dX1_strengthBehind_1 ?_
  refine lv_iload_n X.1 X.2.1 dX1_strengthBehind_4 rfl (lv_at hl 1 rfl) ?_
  obtain ⟨hi1, hf⟩ := gin_of hf
  refine x_iald X hP hG_n.2.2.1 (by omega) hi1 dX1_strengthBehind_5 ?_
  obtain ⟨x2, ex2, hf⟩ := nm_of hf
  refine lv_top_as ex2 ?_
  refine lv_istore_n (lv' := [(3, .int x2), (0, .ref (qa b)), (1, .int p1), (2, .int p2)]) X.1 X.2.1 dX1_strengthBehind_6 rfl hl (by decide) rfl (fun ls hl => ?_)
  refine lv_iconst (v := 0) X.1 X.2.1 dX1_strengthBehind_7 (by decide) ?_
  refine lv_istore (lv' := [(4, .int 0), (3, .int x2), (0, .ref (qa b)), (1, .int p1), (2, .int p2)]) X.1 X.2.1 dX1_strengthBehind_8 hl (by decide) rfl (fun ls hl => ?_)
  have lp3 : ∀ (n3 : Nat) (v3_3 : Int32) (v4_3 : Int32) (H : Heap) (locs : List Loc) (ls : Array Slot), lp (bX1_strengthBehind_10 md_n day_n bu_n ki_n we_n wo_n wr_n p1 p2) n3 (v3_3, v4_3) = some R → va_P D vwCl (WD qa E0) H → va_S (gA qa s.heap.size) s.heap H locs → lv_has ls 5 [(0, .ref (qa b)), (1, .int p1), (2, .int p2), (3, .int v3_3), (4, .int v4_3)] → W p l e (rmf 4) s m args below meth c H locs 0 0 Q (F0 m 10 ls []) := by
    intro n3
    induction n3 with
    | zero =>
      intro v3_3 v4_3 H locs ls hf
      exact absurd hf (by intro h; cases h)
    | succ n3 ih3 =>
      intro v3_3 v4_3 H locs ls hf hP hS hl
      have hf : bX1_strengthBehind_10 md_n day_n bu_n ki_n we_n wo_n wr_n p1 p2 (lp (bX1_strengthBehind_10 md_n day_n bu_n ki_n we_n wo_n wr_n p1 p2) n3) (v3_3, v4_3) = some R := hf
      rw [bX1_strengthBehind_10] at hf
      refine lv_iload X.1 X.2.1 dX1_strengthBehind_10 (lv_at hl 4 rfl) ?_
      refine lv_iload_n X.1 X.2.1 dX1_strengthBehind_12 rfl (lv_at hl 2 rfl) ?_
      refine lv_icmp_ge (tgt := 36) X.1 X.2.1 dX1_strengthBehind_13 (by decide) (fun c4 => ?_) (fun c4 => ?_)
      · have hf := ifp hf c4
        refine lv_iload_n X.1 X.2.1 dX1_strengthBehind_36 rfl (lv_at hl 3 rfl) ?_
        obtain rfl := Option.some.inj hf
        exact hret _ _ _ _ _ _ dX1_strengthBehind_37 rfl rfl (rfl) hP hS
      · have hf := ifn hf c4
        refine lv_aload_n X.1 X.2.1 dX1_strengthBehind_16 rfl (lv_at hl 0 rfl) ?_
        refine lv_iload_n X.1 X.2.1 dX1_strengthBehind_17 rfl (lv_at hl 1 rfl) ?_
        refine lv_iload_n X.1 X.2.1 dX1_strengthBehind_18 rfl (lv_at hl 3 rfl) ?_
        refine lv_aload_n X.1 X.2.1 dX1_strengthBehind_19 rfl (lv_at hl 0 rfl) ?_
        refine x_get X hP hG_n.1 (by omega) rfl in_X1_strengthBehind_X1 8 (by decide) (by decide +kernel) rfl rfl dX1_strengthBehind_20 ?_
        refine lv_iload X.1 X.2.1 dX1_strengthBehind_23 (lv_at hl 4 rfl) ?_
        refine lv_iadd X.1 X.2.1 dX1_strengthBehind_25 ?_
        obtain ⟨r5, hr5, hf⟩ := bd_of hf
        refine x_rdVi X hP hS hG_n.1 (by omega) rfl (n := 3) (As := [.int p1, .int v3_3, .int (day_n + v4_3)]) (ct_X1_strengthAfter (by omega) hG_n hr5) gX1_strengthBehind_X1_strengthAfter rfl (by decide +kernel) ⟨by decide, by decide⟩ rfl hl.1 rfl (Nat.le_of_ble_eq_true rfl) dX1_strengthBehind_26 (fun H locs hP hS => ?_)
        refine lv_istore_n (lv' := [(3, .int r5), (0, .ref (qa b)), (1, .int p1), (2, .int p2), (4, .int v4_3)]) X.1 X.2.1 dX1_strengthBehind_29 rfl hl (by decide) rfl (fun ls hl => ?_)
        obtain ⟨x6, ex6, hf⟩ := nm_of hf
        refine lv_iinc (v := x6) (lv' := [(4, .int x6), (3, .int r5), (0, .ref (qa b)), (1, .int p1), (2, .int p2)]) X.1 X.2.1 dX1_strengthBehind_30 hl (k := 4) rfl (by rw [ex6]; rfl) (by decide) rfl (fun ls hl => ?_)
        refine lv_goto (tgt := 10) X.1 X.2.1 dX1_strengthBehind_33 (by decide) ?_
        exact ih3 r5 x6 _ _ _ hf hP hS (lv_sub hl [2, 3, 4, 1, 0] rfl)
  exact lp3 FU x2 0 _ _ _ hf hP hS (lv_sub hl [2, 3, 4, 1, 0] rfl)
def bX1_bentBehind_4 (men_n : Int32) (md_n : Int32) (day_n : Int32) (bu_n : Nat → Int32) (st_n : Nat → Int32) (ki_n : Nat → Int32) (we_n : Nat → Int32) (wo_n : Nat → Int32) (wr_n : Nat → Int32) (p1 : Int32) (K1 : ((Int32 × Int32)) → Option Int32) : ((Int32 × Int32)) → Option Int32
  | (v2_1, v3_1) => if men_n ≤ v3_1 then (some v2_1) else ((fX1_loadOn v3_1 (day_n + p1) md_n ki_n we_n wo_n wr_n).bind (fun r3 => (fX1_strengthBehind v3_1 p1 md_n day_n bu_n st_n ki_n we_n wo_n wr_n).bind (fun r4 => if r3 ≤ r4 then (nm (v3_1 + 1) (fun x6 => K1 (v2_1, x6))) else (nm (v2_1 ||| (1 <<< (v3_1 &&& 31))) (fun x7 => nm (v3_1 + 1) (fun x8 => K1 (x7, x8)))))))
def fX1_bentBehind (p1 : Int32)  (men_n : Int32) (md_n : Int32) (day_n : Int32) (bu_n : Nat → Int32) (st_n : Nat → Int32) (ki_n : Nat → Int32) (we_n : Nat → Int32) (wo_n : Nat → Int32) (wr_n : Nat → Int32) : Option Int32 := lp (bX1_bentBehind_4 men_n md_n day_n bu_n st_n ki_n we_n wo_n wr_n p1) FU (0, 0)
theorem in_X1_bentBehind_X1 : ∀ w ∈ wsX10, w ∈ wsX1_bentBehind := by decide +kernel
set_option maxHeartbeats 4000000 in
set_option maxRecDepth 100000 in
theorem ct_X1_bentBehind {l : Launch} {D : va_G} {g : Nat → ClassId} {qa : Nat → Nat} {E0 : Nat → va_E} {b : Nat} {p1 : Int32} {men_n : Int32} {md_n : Int32} {day_n : Int32} {drw_n : Int32} {bu_n : Nat → Int32} {st_n : Nat → Int32} {ki_n : Nat → Int32} {we_n : Nat → Int32} {wo_n : Nat → Int32} {wr_n : Nat → Int32} (hb_n : b + 7 ≤ 74) (hG_n : Mu g qa E0 b men_n md_n day_n drw_n bu_n st_n ki_n we_n wo_n wr_n) {R : Int32} (hf : fX1_bentBehind p1 men_n md_n day_n bu_n st_n ki_n we_n wo_n wr_n = some R) : MI l yX1_bentBehind wsX1_bentBehind 5 D g qa E0 [.ref (qa b), .int p1] R (fun E => E = E0) := by
  refine MI.mk (by decide) rfl (Nat.le_of_ble_eq_true rfl) ?_
  intro p e s m args below meth c ls Q X hret hP hS hl
  have hl : lv_has ls 4 [(0, .ref (qa b)), (1, .int p1)] := hl
  rw [fX1_bentBehind] at hf
  refine lv_iconst (v := 0) X.1 X.2.1 dX1_bentBehind_0 (by decide) ?_
  refine lv_istore_n (lv' := [(2, .int 0), (0, .ref (qa b)), (1, .int p1)]) X.1 X.2.1 dX1_bentBehind_1 rfl hl (by decide) rfl (fun ls hl => ?_)
  refine lv_iconst (v := 0) X.1 X.2.1 dX1_bentBehind_2 (by decide) ?_
  refine lv_istore_n (lv' := [(3, .int 0), (2, .int 0), (0, .ref (qa b)), (1, .int p1)]) X.1 X.2.1 dX1_bentBehind_3 rfl hl (by decide) rfl (fun ls hl => ?_)
  have lp1 : ∀ (n1 : Nat) (v2_1 : Int32) (v3_1 : Int32) (H : Heap) (locs : List Loc) (ls : Array Slot), lp (bX1_bentBehind_4 men_n md_n day_n bu_n st_n ki_n we_n wo_n wr_n p1) n1 (v2_1, v3_1) = some R → va_P D vwCl (WD qa E0) H → va_S (gA qa s.heap.size) s.heap H locs → lv_has ls 4 [(0, .ref (qa b)), (1, .int p1), (2, .int v2_1), (3, .int v3_1)] → W p l e (rmf 5) s m args below meth c H locs 0 0 Q (F0 m 4 ls []) := by
    intro n1
    induction n1 with
    | zero =>
      intro v2_1 v3_1 H locs ls hf
      exact absurd hf (by intro h; cases h)
    | succ n1 ih1 =>
      intro v2_1 v3_1 H locs ls hf hP hS hl
      have hf : bX1_bentBehind_4 men_n md_n day_n bu_n st_n ki_n we_n wo_n wr_n p1 (lp (bX1_bentBehind_4 men_n md_n day_n bu_n st_n ki_n we_n wo_n wr_n p1) n1) (v2_1, v3_1) = some R := hf
      rw [bX1_bentBehind_4] at hf
      refine lv_iload_n X.1 X.2.1 dX1_bentBehind_4 rfl (lv_at hl 3 rfl) ?_
      refine lv_aload_n X.1 X.2.1 dX1_bentBehind_5 rfl (lv_at hl 0 rfl) ?_
      refine x_get X hP hG_n.1 (by omega) rfl in_X1_bentBehind_X1 0 (by decide) (by decide +kernel) rfl rfl dX1_bentBehind_6 ?_
      refine lv_icmp_ge (tgt := 44) X.1 X.2.1 dX1_bentBehind_9 (by decide) (fun c2 => ?_) (fun c2 => ?_)
      · have hf := ifp hf c2
        refine lv_iload_n X.1 X.2.1 dX1_bentBehind_44 rfl (lv_at hl 2 rfl) ?_
        obtain rfl := Option.some.inj hf
        exact hret _ _ _ _ _ _ dX1_bentBehind_45 rfl rfl (rfl) hP hS
      · have hf := ifn hf c2
        refine lv_aload_n X.1 X.2.1 dX1_bentBehind_12 rfl (lv_at hl 0 rfl) ?_
        refine lv_iload_n X.1 X.2.1 dX1_bentBehind_13 rfl (lv_at hl 3 rfl) ?_
        refine lv_aload_n X.1 X.2.1 dX1_bentBehind_14 rfl (lv_at hl 0 rfl) ?_
        refine x_get X hP hG_n.1 (by omega) rfl in_X1_bentBehind_X1 8 (by decide) (by decide +kernel) rfl rfl dX1_bentBehind_15 ?_
        refine lv_iload_n X.1 X.2.1 dX1_bentBehind_18 rfl (lv_at hl 1 rfl) ?_
        refine lv_iadd X.1 X.2.1 dX1_bentBehind_19 ?_
        obtain ⟨r3, hr3, hf⟩ := bd_of hf
        refine x_rdVi X hP hS hG_n.1 (by omega) rfl (n := 2) (As := [.int v3_1, .int (day_n + p1)]) (ct_X1_loadOn (by omega) hG_n hr3) gX1_bentBehind_X1_loadOn rfl (by decide +kernel) ⟨by decide, by decide⟩ rfl hl.1 rfl (Nat.le_of_ble_eq_true rfl) dX1_bentBehind_20 (fun H locs hP hS => ?_)
        refine lv_aload_n X.1 X.2.1 dX1_bentBehind_23 rfl (lv_at hl 0 rfl) ?_
        refine lv_iload_n X.1 X.2.1 dX1_bentBehind_24 rfl (lv_at hl 3 rfl) ?_
        refine lv_iload_n X.1 X.2.1 dX1_bentBehind_25 rfl (lv_at hl 1 rfl) ?_
        obtain ⟨r4, hr4, hf⟩ := bd_of hf
        refine x_rdVi X hP hS hG_n.1 (by omega) rfl (n := 2) (As := [.int v3_1, .int p1]) (ct_X1_strengthBehind (by omega) hG_n hr4) gX1_bentBehind_X1_strengthBehind rfl (by decide +kernel) ⟨by decide, by decide⟩ rfl hl.1 rfl (Nat.le_of_ble_eq_true rfl) dX1_bentBehind_26 (fun H locs hP hS => ?_)
        refine lv_icmp_le (tgt := 38) X.1 X.2.1 dX1_bentBehind_29 (by decide) (fun c5 => ?_) (fun c5 => ?_)
        · have hf := ifp hf c5
          obtain ⟨x6, ex6, hf⟩ := nm_of hf
          refine lv_iinc (v := x6) (lv' := [(3, .int x6), (0, .ref (qa b)), (1, .int p1), (2, .int v2_1)]) X.1 X.2.1 dX1_bentBehind_38 hl (k := 3) rfl (by rw [ex6]; rfl) (by decide) rfl (fun ls hl => ?_)
          refine lv_goto (tgt := 4) X.1 X.2.1 dX1_bentBehind_41 (by decide) ?_
          exact ih1 v2_1 x6 _ _ _ hf hP hS (lv_sub hl [1, 2, 3, 0] rfl)
        · have hf := ifn hf c5
          refine lv_iload_n X.1 X.2.1 dX1_bentBehind_32 rfl (lv_at hl 2 rfl) ?_
          refine lv_iconst (v := 1) X.1 X.2.1 dX1_bentBehind_33 (by decide) ?_
          refine lv_iload_n X.1 X.2.1 dX1_bentBehind_34 rfl (lv_at hl 3 rfl) ?_
          refine lv_ishl X.1 X.2.1 dX1_bentBehind_35 ?_
          refine lv_ior X.1 X.2.1 dX1_bentBehind_36 ?_
          obtain ⟨x7, ex7, hf⟩ := nm_of hf
          refine lv_top_as ex7 ?_
          refine lv_istore_n (lv' := [(2, .int x7), (0, .ref (qa b)), (1, .int p1), (3, .int v3_1)]) X.1 X.2.1 dX1_bentBehind_37 rfl hl (by decide) rfl (fun ls hl => ?_)
          obtain ⟨x8, ex8, hf⟩ := nm_of hf
          refine lv_iinc (v := x8) (lv' := [(3, .int x8), (2, .int x7), (0, .ref (qa b)), (1, .int p1)]) X.1 X.2.1 dX1_bentBehind_38 hl (k := 3) rfl (by rw [ex8]; rfl) (by decide) rfl (fun ls hl => ?_)
          refine lv_goto (tgt := 4) X.1 X.2.1 dX1_bentBehind_41 (by decide) ?_
          exact ih1 x7 x8 _ _ _ hf hP hS (lv_sub hl [2, 3, 1, 0] rfl)
  exact lp1 FU 0 0 _ _ _ hf hP hS (lv_sub hl [2, 3, 1, 0] rfl)
def fX1_clear    : Option (Int32 × Int32 × Int32) := some (0, 0, 0)
theorem in_X1_clear_X1 : ∀ w ∈ wsX10, w ∈ wsX1_clear := by decide +kernel
set_option maxHeartbeats 4000000 in
set_option maxRecDepth 100000 in
theorem ct_X1_clear {l : Launch} {D : va_G} {g : Nat → ClassId} {qa : Nat → Nat} {E0 : Nat → va_E} {b : Nat} {men_n : Int32} {md_n : Int32} {day_n : Int32} {drw_n : Int32} {bu_n : Nat → Int32} {st_n : Nat → Int32} {ki_n : Nat → Int32} {we_n : Nat → Int32} {wo_n : Nat → Int32} {wr_n : Nat → Int32} (hb_n : b + 7 ≤ 74) (hG_n : Mu g qa E0 b men_n md_n day_n drw_n bu_n st_n ki_n we_n wo_n wr_n) {R : (Int32 × Int32 × Int32)} (hf : fX1_clear = some R) : MV l yX1_clear wsX1_clear 0 D g qa E0 [.ref (qa b)] (fun E => Mu g qa E b R.1 R.2.1 R.2.2 drw_n bu_n st_n ki_n we_n wo_n wr_n ∧ ∀ j, (j < b ∨ b + 7 ≤ j) → E j = E0 j) := by
  refine MV.mk (by decide) rfl (Nat.le_of_ble_eq_true rfl) ?_
  intro p e s m args below meth c ls Q X hret hP hS hl
  have hl : lv_has ls 1 [(0, .ref (qa b))] := hl
  have hfr : ∀ j, (j < b ∨ b + 7 ≤ j) → E0 j = E0 j := fun _ _ => rfl
  rw [fX1_clear] at hf
  refine lv_aload_n X.1 X.2.1 dX1_clear_0 rfl (lv_at hl 0 rfl) ?_
  refine lv_iconst (v := 0) X.1 X.2.1 dX1_clear_1 (by decide) ?_
  refine x_put (ty := .int) X hP hS hG_n.1 (by omega) rfl in_X1_clear_X1 tyX1 tyX1_ok nmX1 0 (by decide) (by decide +kernel) rfl rfl (by decide +kernel) rfl rfl (Nat.le_of_ble_eq_true rfl) dX1_clear_2 (fun E H locs h1 hk hP hS => ?_)
  have hG_n := Mu_set_0 hG_n h1 hk
  have hfr : ∀ j, (j < b ∨ b + 7 ≤ j) → E j = E0 j := fun j o0 => (hk j (by omega)).trans (hfr j o0)
  refine lv_aload_n X.1 X.2.1 dX1_clear_5 rfl (lv_at hl 0 rfl) ?_
  refine lv_iconst (v := 0) X.1 X.2.1 dX1_clear_6 (by decide) ?_
  refine x_put (ty := .int) X hP hS hG_n.1 (by omega) rfl in_X1_clear_X1 tyX1 tyX1_ok nmX1 3 (by decide) (by decide +kernel) rfl rfl (by decide +kernel) rfl rfl (Nat.le_of_ble_eq_true rfl) dX1_clear_7 (fun E H locs h1 hk hP hS => ?_)
  have hG_n := Mu_set_0 hG_n h1 hk
  have hfr : ∀ j, (j < b ∨ b + 7 ≤ j) → E j = E0 j := fun j o0 => (hk j (by omega)).trans (hfr j o0)
  refine lv_aload_n X.1 X.2.1 dX1_clear_10 rfl (lv_at hl 0 rfl) ?_
  refine lv_iconst (v := 0) X.1 X.2.1 dX1_clear_11 (by decide) ?_
  refine x_put (ty := .int) X hP hS hG_n.1 (by omega) rfl in_X1_clear_X1 tyX1 tyX1_ok nmX1 8 (by decide) (by decide +kernel) rfl rfl (by decide +kernel) rfl rfl (Nat.le_of_ble_eq_true rfl) dX1_clear_12 (fun E H locs h1 hk hP hS => ?_)
  have hG_n := Mu_set_0 hG_n h1 hk
  have hfr : ∀ j, (j < b ∨ b + 7 ≤ j) → E j = E0 j := fun j o0 => (hk j (by omega)).trans (hfr j o0)
  obtain rfl := Option.some.inj hf
  exact hret _ _ _ _ _ dX1_clear_15 (⟨hG_n, hfr⟩) hP hS
def fX1_drawAndHang   (men_n : Int32) (md_n : Int32) (drw_n : Int32) (wr_n : Nat → Int32) : Option (Int32 × (Nat → Int32)) := if md_n ≤ 0 then (some (Int64.toInt32 ((((Int32.toInt64 drw_n) * 1103515245) + 12345) &&& 2147483647), wr_n)) else (if men_n ≤ 0 then (some (Int64.toInt32 ((((Int32.toInt64 drw_n) * 1103515245) + 12345) &&& 2147483647), wr_n)) else (gnz md_n (gnz men_n (gin (((Int64.toInt32 ((((Int32.toInt64 drw_n) * 1103515245) + 12345) &&& 2147483647)) / 65536) - ((Int64.toInt32 ((((Int32.toInt64 drw_n) * 1103515245) + 12345) &&& 2147483647)) / 65536) / md_n * md_n) 6 (some (Int64.toInt32 ((((Int32.toInt64 drw_n) * 1103515245) + 12345) &&& 2147483647), upd wr_n (Int32.toNatClampNeg (((Int64.toInt32 ((((Int32.toInt64 drw_n) * 1103515245) + 12345) &&& 2147483647)) / 65536) - ((Int64.toInt32 ((((Int32.toInt64 drw_n) * 1103515245) + 12345) &&& 2147483647)) / 65536) / md_n * md_n)) (((Int64.toInt32 ((((Int32.toInt64 drw_n) * 1103515245) + 12345) &&& 2147483647)) / 128) - ((Int64.toInt32 ((((Int32.toInt64 drw_n) * 1103515245) + 12345) &&& 2147483647)) / 128) / men_n * men_n)))))))
theorem in_X1_drawAndHang_X1 : ∀ w ∈ wsX10, w ∈ wsX1_drawAndHang := by decide +kernel
set_option maxHeartbeats 4000000 in
set_option maxRecDepth 100000 in
theorem ct_X1_drawAndHang {l : Launch} {D : va_G} {g : Nat → ClassId} {qa : Nat → Nat} {E0 : Nat → va_E} {b : Nat} {men_n : Int32} {md_n : Int32} {day_n : Int32} {drw_n : Int32} {bu_n : Nat → Int32} {st_n : Nat → Int32} {ki_n : Nat → Int32} {we_n : Nat → Int32} {wo_n : Nat → Int32} {wr_n : Nat → Int32} (hb_n : b + 7 ≤ 74) (hG_n : Mu g qa E0 b men_n md_n day_n drw_n bu_n st_n ki_n we_n wo_n wr_n) {R : (Int32 × (Nat → Int32))} (hf : fX1_drawAndHang men_n md_n drw_n wr_n = some R) : MV l yX1_drawAndHang wsX1_drawAndHang 0 D g qa E0 [.ref (qa b)] (fun E => Mu g qa E b men_n md_n day_n R.1 bu_n st_n ki_n we_n wo_n R.2 ∧ ∀ j, (j < b ∨ b + 7 ≤ j) → E j = E0 j) := by
  refine MV.mk (by decide) rfl (Nat.le_of_ble_eq_true rfl) ?_
  intro p e s m args below meth c ls Q X hret hP hS hl
  have hl : lv_has ls 1 [(0, .ref (qa b))] := hl
  have hfr : ∀ j, (j < b ∨ b + 7 ≤ j) → E0 j = E0 j := fun _ _ => rfl
  rw [fX1_drawAndHang] at hf
  refine lv_aload_n X.1 X.2.1 dX1_drawAndHang_0 rfl (lv_at hl 0 rfl) ?_
  refine lv_aload_n X.1 X.2.1 dX1_drawAndHang_1 rfl (lv_at hl 0 rfl) ?_
  refine x_get X hP hG_n.1 (by omega) rfl in_X1_drawAndHang_X1 9 (by decide) (by decide +kernel) rfl rfl dX1_drawAndHang_2 ?_
  refine lv_i2l X.1 X.2.1 dX1_drawAndHang_5 rfl ?_
  refine lv_ldc2 (v := 1103515245) X.1 X.2.1 X.2.2.2.1 (X.2.2.2.2.1 (.constantLong RX1 87 (1103515245)) (by decide +kernel)) dX1_drawAndHang_6 ?_
  refine lv_lmul X.1 X.2.1 dX1_drawAndHang_9 ?_
  refine lv_ldc2 (v := 12345) X.1 X.2.1 X.2.2.2.1 (X.2.2.2.2.1 (.constantLong RX1 89 (12345)) (by decide +kernel)) dX1_drawAndHang_10 ?_
  refine lv_ladd X.1 X.2.1 dX1_drawAndHang_13 ?_
  refine lv_ldc2 (v := 2147483647) X.1 X.2.1 X.2.2.2.1 (X.2.2.2.2.1 (.constantLong RX1 91 (2147483647)) (by decide +kernel)) dX1_drawAndHang_14 ?_
  refine lv_land X.1 X.2.1 dX1_drawAndHang_17 ?_
  refine lv_l2i X.1 X.2.1 dX1_drawAndHang_18 rfl ?_
  refine x_put (ty := .int) X hP hS hG_n.1 (by omega) rfl in_X1_drawAndHang_X1 tyX1 tyX1_ok nmX1 9 (by decide) (by decide +kernel) rfl rfl (by decide +kernel) rfl rfl (Nat.le_of_ble_eq_true rfl) dX1_drawAndHang_19 (fun E H locs h1 hk hP hS => ?_)
  have hG_n := Mu_set_0 hG_n h1 hk
  have hfr : ∀ j, (j < b ∨ b + 7 ≤ j) → E j = E0 j := fun j o0 => (hk j (by omega)).trans (hfr j o0)
  refine lv_aload_n X.1 X.2.1 dX1_drawAndHang_22 rfl (lv_at hl 0 rfl) ?_
  refine x_get X hP hG_n.1 (by omega) rfl in_X1_drawAndHang_X1 3 (by decide) (by decide +kernel) rfl rfl dX1_drawAndHang_23 ?_
  refine lv_if_le (tgt := 66) X.1 X.2.1 dX1_drawAndHang_26 (by decide) (fun c1 => ?_) (fun c1 => ?_)
  · have hf := ifp hf c1
    obtain rfl := Option.some.inj hf
    exact hret _ _ _ _ _ dX1_drawAndHang_66 (⟨hG_n, hfr⟩) hP hS
  · have hf := ifn hf c1
    refine lv_aload_n X.1 X.2.1 dX1_drawAndHang_29 rfl (lv_at hl 0 rfl) ?_
    refine x_get X hP hG_n.1 (by omega) rfl in_X1_drawAndHang_X1 0 (by decide) (by decide +kernel) rfl rfl dX1_drawAndHang_30 ?_
    refine lv_if_le (tgt := 66) X.1 X.2.1 dX1_drawAndHang_33 (by decide) (fun c2 => ?_) (fun c2 => ?_)
    · have hf := ifp hf c2
      obtain rfl := Option.some.inj hf
      exact hret _ _ _ _ _ dX1_drawAndHang_66 (⟨hG_n, hfr⟩) hP hS
    · have hf := ifn hf c2
      refine lv_aload_n X.1 X.2.1 dX1_drawAndHang_36 rfl (lv_at hl 0 rfl) ?_
      refine x_get X hP hG_n.1 (by omega) rfl in_X1_drawAndHang_X1 7 (by decide) (by decide +kernel) rfl rfl dX1_drawAndHang_37 ?_
      refine lv_aload_n X.1 X.2.1 dX1_drawAndHang_40 rfl (lv_at hl 0 rfl) ?_
      refine x_get X hP hG_n.1 (by omega) rfl in_X1_drawAndHang_X1 9 (by decide) (by decide +kernel) rfl rfl dX1_drawAndHang_41 ?_
      refine lv_ldc (v := 65536) X.1 X.2.1 X.2.2.2.1 (X.2.2.2.2.1 (.constant RX1 93 (65536)) (by decide +kernel)) dX1_drawAndHang_44 ?_
      refine lv_idiv X.1 X.2.1 dX1_drawAndHang_46 (by decide) ?_
      refine lv_aload_n X.1 X.2.1 dX1_drawAndHang_47 rfl (lv_at hl 0 rfl) ?_
      refine x_get X hP hG_n.1 (by omega) rfl in_X1_drawAndHang_X1 3 (by decide) (by decide +kernel) rfl rfl dX1_drawAndHang_48 ?_
      obtain ⟨hz3, hf⟩ := gnz_of hf
      refine lv_irem X.1 X.2.1 dX1_drawAndHang_51 hz3 ?_
      refine lv_aload_n X.1 X.2.1 dX1_drawAndHang_52 rfl (lv_at hl 0 rfl) ?_
      refine x_get X hP hG_n.1 (by omega) rfl in_X1_drawAndHang_X1 9 (by decide) (by decide +kernel) rfl rfl dX1_drawAndHang_53 ?_
      refine lv_sipush (v := 128) X.1 X.2.1 dX1_drawAndHang_56 (by decide) ?_
      refine lv_idiv X.1 X.2.1 dX1_drawAndHang_59 (by decide) ?_
      refine lv_aload_n X.1 X.2.1 dX1_drawAndHang_60 rfl (lv_at hl 0 rfl) ?_
      refine x_get X hP hG_n.1 (by omega) rfl in_X1_drawAndHang_X1 0 (by decide) (by decide +kernel) rfl rfl dX1_drawAndHang_61 ?_
      obtain ⟨hz4, hf⟩ := gnz_of hf
      refine lv_irem X.1 X.2.1 dX1_drawAndHang_64 hz4 ?_
      obtain ⟨hi5, hf⟩ := gin_of hf
      refine x_iast X hP hS hG_n.2.2.2.2.2.2 (by omega) hi5 dX1_drawAndHang_65 (fun E H locs h1 hk hP hS => ?_)
      have hG_n := Mu_set_6 hG_n h1 hk
      have hfr : ∀ j, (j < b ∨ b + 7 ≤ j) → E j = E0 j := fun j o0 => (hk j (by omega)).trans (hfr j o0)
      obtain rfl := Option.some.inj hf
      exact hret _ _ _ _ _ dX1_drawAndHang_66 (⟨hG_n, hfr⟩) hP hS
def fX1_hasMan (p1 : Int32)  (men_n : Int32) : Option Int32 := if p1 < 0 then (some 0) else (if men_n ≤ p1 then (some 0) else (some 1))
theorem in_X1_hasMan_X1 : ∀ w ∈ wsX10, w ∈ wsX1_hasMan := by decide +kernel
set_option maxHeartbeats 4000000 in
set_option maxRecDepth 100000 in
theorem ct_X1_hasMan {l : Launch} {D : va_G} {g : Nat → ClassId} {qa : Nat → Nat} {E0 : Nat → va_E} {b : Nat} {p1 : Int32} {men_n : Int32} {md_n : Int32} {day_n : Int32} {drw_n : Int32} {bu_n : Nat → Int32} {st_n : Nat → Int32} {ki_n : Nat → Int32} {we_n : Nat → Int32} {wo_n : Nat → Int32} {wr_n : Nat → Int32} (hb_n : b + 7 ≤ 74) (hG_n : Mu g qa E0 b men_n md_n day_n drw_n bu_n st_n ki_n we_n wo_n wr_n) {R : Int32} (hf : fX1_hasMan p1 men_n = some R) : MI l yX1_hasMan wsX1_hasMan 0 D g qa E0 [.ref (qa b), .int p1] R (fun E => E = E0) := by
  refine MI.mk (by decide) rfl (Nat.le_of_ble_eq_true rfl) ?_
  intro p e s m args below meth c ls Q X hret hP hS hl
  have hl : lv_has ls 2 [(0, .ref (qa b)), (1, .int p1)] := hl
  rw [fX1_hasMan] at hf
  refine lv_iload_n X.1 X.2.1 dX1_hasMan_0 rfl (lv_at hl 1 rfl) ?_
  refine lv_if_lt (tgt := 16) X.1 X.2.1 dX1_hasMan_1 (by decide) (fun c1 => ?_) (fun c1 => ?_)
  · have hf := ifp hf c1
    refine lv_iconst (v := 0) X.1 X.2.1 dX1_hasMan_16 (by decide) ?_
    obtain rfl := Option.some.inj hf
    exact hret _ _ _ _ _ _ dX1_hasMan_17 rfl rfl (rfl) hP hS
  · have hf := ifn hf c1
    refine lv_iload_n X.1 X.2.1 dX1_hasMan_4 rfl (lv_at hl 1 rfl) ?_
    refine lv_aload_n X.1 X.2.1 dX1_hasMan_5 rfl (lv_at hl 0 rfl) ?_
    refine x_get X hP hG_n.1 (by omega) rfl in_X1_hasMan_X1 0 (by decide) (by decide +kernel) rfl rfl dX1_hasMan_6 ?_
    refine lv_icmp_ge (tgt := 16) X.1 X.2.1 dX1_hasMan_9 (by decide) (fun c2 => ?_) (fun c2 => ?_)
    · have hf := ifp hf c2
      refine lv_iconst (v := 0) X.1 X.2.1 dX1_hasMan_16 (by decide) ?_
      obtain rfl := Option.some.inj hf
      exact hret _ _ _ _ _ _ dX1_hasMan_17 rfl rfl (rfl) hP hS
    · have hf := ifn hf c2
      refine lv_iconst (v := 1) X.1 X.2.1 dX1_hasMan_12 (by decide) ?_
      refine lv_goto (tgt := 17) X.1 X.2.1 dX1_hasMan_13 (by decide) ?_
      obtain rfl := Option.some.inj hf
      exact hret _ _ _ _ _ _ dX1_hasMan_17 rfl rfl (rfl) hP hS
def fX1_hasMedal (p1 : Int32)  (md_n : Int32) : Option Int32 := if p1 < 0 then (some 0) else (if md_n ≤ p1 then (some 0) else (some 1))
theorem in_X1_hasMedal_X1 : ∀ w ∈ wsX10, w ∈ wsX1_hasMedal := by decide +kernel
set_option maxHeartbeats 4000000 in
set_option maxRecDepth 100000 in
theorem ct_X1_hasMedal {l : Launch} {D : va_G} {g : Nat → ClassId} {qa : Nat → Nat} {E0 : Nat → va_E} {b : Nat} {p1 : Int32} {men_n : Int32} {md_n : Int32} {day_n : Int32} {drw_n : Int32} {bu_n : Nat → Int32} {st_n : Nat → Int32} {ki_n : Nat → Int32} {we_n : Nat → Int32} {wo_n : Nat → Int32} {wr_n : Nat → Int32} (hb_n : b + 7 ≤ 74) (hG_n : Mu g qa E0 b men_n md_n day_n drw_n bu_n st_n ki_n we_n wo_n wr_n) {R : Int32} (hf : fX1_hasMedal p1 md_n = some R) : MI l yX1_hasMedal wsX1_hasMedal 0 D g qa E0 [.ref (qa b), .int p1] R (fun E => E = E0) := by
  refine MI.mk (by decide) rfl (Nat.le_of_ble_eq_true rfl) ?_
  intro p e s m args below meth c ls Q X hret hP hS hl
  have hl : lv_has ls 2 [(0, .ref (qa b)), (1, .int p1)] := hl
  rw [fX1_hasMedal] at hf
  refine lv_iload_n X.1 X.2.1 dX1_hasMedal_0 rfl (lv_at hl 1 rfl) ?_
  refine lv_if_lt (tgt := 16) X.1 X.2.1 dX1_hasMedal_1 (by decide) (fun c1 => ?_) (fun c1 => ?_)
  · have hf := ifp hf c1
    refine lv_iconst (v := 0) X.1 X.2.1 dX1_hasMedal_16 (by decide) ?_
    obtain rfl := Option.some.inj hf
    exact hret _ _ _ _ _ _ dX1_hasMedal_17 rfl rfl (rfl) hP hS
  · have hf := ifn hf c1
    refine lv_iload_n X.1 X.2.1 dX1_hasMedal_4 rfl (lv_at hl 1 rfl) ?_
    refine lv_aload_n X.1 X.2.1 dX1_hasMedal_5 rfl (lv_at hl 0 rfl) ?_
    refine x_get X hP hG_n.1 (by omega) rfl in_X1_hasMedal_X1 3 (by decide) (by decide +kernel) rfl rfl dX1_hasMedal_6 ?_
    refine lv_icmp_ge (tgt := 16) X.1 X.2.1 dX1_hasMedal_9 (by decide) (fun c2 => ?_) (fun c2 => ?_)
    · have hf := ifp hf c2
      refine lv_iconst (v := 0) X.1 X.2.1 dX1_hasMedal_16 (by decide) ?_
      obtain rfl := Option.some.inj hf
      exact hret _ _ _ _ _ _ dX1_hasMedal_17 rfl rfl (rfl) hP hS
    · have hf := ifn hf c2
      refine lv_iconst (v := 1) X.1 X.2.1 dX1_hasMedal_12 (by decide) ?_
      refine lv_goto (tgt := 17) X.1 X.2.1 dX1_hasMedal_13 (by decide) ?_
      obtain rfl := Option.some.inj hf
      exact hret _ _ _ _ _ _ dX1_hasMedal_17 rfl rfl (rfl) hP hS
def bX1_isBentWithin_10 (md_n : Int32) (day_n : Int32) (bu_n : Nat → Int32) (ki_n : Nat → Int32) (we_n : Nat → Int32) (wo_n : Nat → Int32) (wr_n : Nat → Int32) (p1 : Int32) (p2 : Int32) (K3 : ((Int32 × Int32)) → Option Int32) : ((Int32 × Int32)) → Option Int32
  | (v3_3, v4_3) => if p2 < v4_3 then (some 0) else ((fX1_loadOn p1 (day_n + v4_3) md_n ki_n we_n wo_n wr_n).bind (fun r5 => if r5 ≤ v3_3 then ((fX1_strengthAfter p1 v3_3 (day_n + v4_3) md_n bu_n ki_n we_n wo_n wr_n).bind (fun r7 => nm (v4_3 + 1) (fun x8 => K3 (r7, x8)))) else (some 1)))
def fX1_isBentWithin (p1 : Int32) (p2 : Int32)  (md_n : Int32) (day_n : Int32) (bu_n : Nat → Int32) (st_n : Nat → Int32) (ki_n : Nat → Int32) (we_n : Nat → Int32) (wo_n : Nat → Int32) (wr_n : Nat → Int32) : Option Int32 := gin p1 5 (nm (st_n (Int32.toNatClampNeg p1)) (fun x2 => lp (bX1_isBentWithin_10 md_n day_n bu_n ki_n we_n wo_n wr_n p1 p2) FU (x2, 0)))
theorem in_X1_isBentWithin_X1 : ∀ w ∈ wsX10, w ∈ wsX1_isBentWithin := by decide +kernel
set_option maxHeartbeats 4000000 in
set_option maxRecDepth 100000 in
theorem ct_X1_isBentWithin {l : Launch} {D : va_G} {g : Nat → ClassId} {qa : Nat → Nat} {E0 : Nat → va_E} {b : Nat} {p1 : Int32} {p2 : Int32} {men_n : Int32} {md_n : Int32} {day_n : Int32} {drw_n : Int32} {bu_n : Nat → Int32} {st_n : Nat → Int32} {ki_n : Nat → Int32} {we_n : Nat → Int32} {wo_n : Nat → Int32} {wr_n : Nat → Int32} (hb_n : b + 7 ≤ 74) (hG_n : Mu g qa E0 b men_n md_n day_n drw_n bu_n st_n ki_n we_n wo_n wr_n) {R : Int32} (hf : fX1_isBentWithin p1 p2 md_n day_n bu_n st_n ki_n we_n wo_n wr_n = some R) : MI l yX1_isBentWithin wsX1_isBentWithin 4 D g qa E0 [.ref (qa b), .int p1, .int p2] R (fun E => E = E0) := by
  refine MI.mk (by decide) rfl (Nat.le_of_ble_eq_true rfl) ?_
  intro p e s m args below meth c ls Q X hret hP hS hl
  have hl : lv_has ls 5 [(0, .ref (qa b)), (1, .int p1), (2, .int p2)] := hl
  rw [fX1_isBentWithin] at hf
  refine lv_aload_n X.1 X.2.1 dX1_isBentWithin_0 rfl (lv_at hl 0 rfl) ?_
  refine x_get X hP hG_n.1 (by omega) rfl in_X1_isBentWithin_X1 2 (by decide) (by decide +kernel) rfl rfl dX1_isBentWithin_1 ?_
  refine lv_iload_n X.1 X.2.1 dX1_isBentWithin_4 rfl (lv_at hl 1 rfl) ?_
  obtain ⟨hi1, hf⟩ := gin_of hf
  refine x_iald X hP hG_n.2.2.1 (by omega) hi1 dX1_isBentWithin_5 ?_
  obtain ⟨x2, ex2, hf⟩ := nm_of hf
  refine lv_top_as ex2 ?_
  refine lv_istore_n (lv' := [(3, .int x2), (0, .ref (qa b)), (1, .int p1), (2, .int p2)]) X.1 X.2.1 dX1_isBentWithin_6 rfl hl (by decide) rfl (fun ls hl => ?_)
  refine lv_iconst (v := 0) X.1 X.2.1 dX1_isBentWithin_7 (by decide) ?_
  refine lv_istore (lv' := [(4, .int 0), (3, .int x2), (0, .ref (qa b)), (1, .int p1), (2, .int p2)]) X.1 X.2.1 dX1_isBentWithin_8 hl (by decide) rfl (fun ls hl => ?_)
  have lp3 : ∀ (n3 : Nat) (v3_3 : Int32) (v4_3 : Int32) (H : Heap) (locs : List Loc) (ls : Array Slot), lp (bX1_isBentWithin_10 md_n day_n bu_n ki_n we_n wo_n wr_n p1 p2) n3 (v3_3, v4_3) = some R → va_P D vwCl (WD qa E0) H → va_S (gA qa s.heap.size) s.heap H locs → lv_has ls 5 [(0, .ref (qa b)), (1, .int p1), (2, .int p2), (3, .int v3_3), (4, .int v4_3)] → W p l e (rmf 4) s m args below meth c H locs 0 0 Q (F0 m 10 ls []) := by
    intro n3
    induction n3 with
    | zero =>
      intro v3_3 v4_3 H locs ls hf
      exact absurd hf (by intro h; cases h)
    | succ n3 ih3 =>
      intro v3_3 v4_3 H locs ls hf hP hS hl
      have hf : bX1_isBentWithin_10 md_n day_n bu_n ki_n we_n wo_n wr_n p1 p2 (lp (bX1_isBentWithin_10 md_n day_n bu_n ki_n we_n wo_n wr_n p1 p2) n3) (v3_3, v4_3) = some R := hf
      rw [bX1_isBentWithin_10] at hf
      refine lv_iload X.1 X.2.1 dX1_isBentWithin_10 (lv_at hl 4 rfl) ?_
      refine lv_iload_n X.1 X.2.1 dX1_isBentWithin_12 rfl (lv_at hl 2 rfl) ?_
      refine lv_icmp_gt (tgt := 54) X.1 X.2.1 dX1_isBentWithin_13 (by decide) (fun c4 => ?_) (fun c4 => ?_)
      · have hf := ifp hf c4
        refine lv_iconst (v := 0) X.1 X.2.1 dX1_isBentWithin_54 (by decide) ?_
        obtain rfl := Option.some.inj hf
        exact hret _ _ _ _ _ _ dX1_isBentWithin_55 rfl rfl (rfl) hP hS
      · have hf := ifn hf c4
        refine lv_aload_n X.1 X.2.1 dX1_isBentWithin_16 rfl (lv_at hl 0 rfl) ?_
        refine lv_iload_n X.1 X.2.1 dX1_isBentWithin_17 rfl (lv_at hl 1 rfl) ?_
        refine lv_aload_n X.1 X.2.1 dX1_isBentWithin_18 rfl (lv_at hl 0 rfl) ?_
        refine x_get X hP hG_n.1 (by omega) rfl in_X1_isBentWithin_X1 8 (by decide) (by decide +kernel) rfl rfl dX1_isBentWithin_19 ?_
        refine lv_iload X.1 X.2.1 dX1_isBentWithin_22 (lv_at hl 4 rfl) ?_
        refine lv_iadd X.1 X.2.1 dX1_isBentWithin_24 ?_
        obtain ⟨r5, hr5, hf⟩ := bd_of hf
        refine x_rdVi X hP hS hG_n.1 (by omega) rfl (n := 2) (As := [.int p1, .int (day_n + v4_3)]) (ct_X1_loadOn (by omega) hG_n hr5) gX1_isBentWithin_X1_loadOn rfl (by decide +kernel) ⟨by decide, by decide⟩ rfl hl.1 rfl (Nat.le_of_ble_eq_true rfl) dX1_isBentWithin_25 (fun H locs hP hS => ?_)
        refine lv_iload_n X.1 X.2.1 dX1_isBentWithin_28 rfl (lv_at hl 3 rfl) ?_
        refine lv_icmp_le (tgt := 34) X.1 X.2.1 dX1_isBentWithin_29 (by decide) (fun c6 => ?_) (fun c6 => ?_)
        · have hf := ifp hf c6
          refine lv_aload_n X.1 X.2.1 dX1_isBentWithin_34 rfl (lv_at hl 0 rfl) ?_
          refine lv_iload_n X.1 X.2.1 dX1_isBentWithin_35 rfl (lv_at hl 1 rfl) ?_
          refine lv_iload_n X.1 X.2.1 dX1_isBentWithin_36 rfl (lv_at hl 3 rfl) ?_
          refine lv_aload_n X.1 X.2.1 dX1_isBentWithin_37 rfl (lv_at hl 0 rfl) ?_
          refine x_get X hP hG_n.1 (by omega) rfl in_X1_isBentWithin_X1 8 (by decide) (by decide +kernel) rfl rfl dX1_isBentWithin_38 ?_
          refine lv_iload X.1 X.2.1 dX1_isBentWithin_41 (lv_at hl 4 rfl) ?_
          refine lv_iadd X.1 X.2.1 dX1_isBentWithin_43 ?_
          obtain ⟨r7, hr7, hf⟩ := bd_of hf
          refine x_rdVi X hP hS hG_n.1 (by omega) rfl (n := 3) (As := [.int p1, .int v3_3, .int (day_n + v4_3)]) (ct_X1_strengthAfter (by omega) hG_n hr7) gX1_isBentWithin_X1_strengthAfter rfl (by decide +kernel) ⟨by decide, by decide⟩ rfl hl.1 rfl (Nat.le_of_ble_eq_true rfl) dX1_isBentWithin_44 (fun H locs hP hS => ?_)
          refine lv_istore_n (lv' := [(3, .int r7), (0, .ref (qa b)), (1, .int p1), (2, .int p2), (4, .int v4_3)]) X.1 X.2.1 dX1_isBentWithin_47 rfl hl (by decide) rfl (fun ls hl => ?_)
          obtain ⟨x8, ex8, hf⟩ := nm_of hf
          refine lv_iinc (v := x8) (lv' := [(4, .int x8), (3, .int r7), (0, .ref (qa b)), (1, .int p1), (2, .int p2)]) X.1 X.2.1 dX1_isBentWithin_48 hl (k := 4) rfl (by rw [ex8]; rfl) (by decide) rfl (fun ls hl => ?_)
          refine lv_goto (tgt := 10) X.1 X.2.1 dX1_isBentWithin_51 (by decide) ?_
          exact ih3 r7 x8 _ _ _ hf hP hS (lv_sub hl [2, 3, 4, 1, 0] rfl)
        · have hf := ifn hf c6
          refine lv_iconst (v := 1) X.1 X.2.1 dX1_isBentWithin_32 (by decide) ?_
          obtain rfl := Option.some.inj hf
          exact hret _ _ _ _ _ _ dX1_isBentWithin_33 rfl rfl (rfl) hP hS
  exact lp3 FU x2 0 _ _ _ hf hP hS (lv_sub hl [2, 3, 4, 1, 0] rfl)
def fX1_loadsIfChanged (p1 : Int32) (p2 : Int32)  (md_n : Int32) (day_n : Int32) (ki_n : Nat → Int32) (we_n : Nat → Int32) (wo_n : Nat → Int32) (wr_n : Nat → Int32) : Option Int32 := nm ((1 <<< (p1 &&& 31)) ||| (1 <<< (p2 &&& 31))) (fun x1 => gin p1 6 (nm (wr_n (Int32.toNatClampNeg p1)) (fun x3 => gin p2 6 (nm (wr_n (Int32.toNatClampNeg p2)) (fun x5 => (fX1_wornBy x3 md_n wr_n).bind (fun r6 => (fX1_loadOfSet x3 (r6 ^^^ x1) day_n md_n ki_n we_n wo_n).bind (fun r7 => (fX1_wornBy x5 md_n wr_n).bind (fun r8 => (fX1_loadOfSet x5 (r8 ^^^ x1) day_n md_n ki_n we_n wo_n).bind (fun r9 => some (r7 + r9))))))))))
theorem in_X1_loadsIfChanged_X1 : ∀ w ∈ wsX10, w ∈ wsX1_loadsIfChanged := by decide +kernel
set_option maxHeartbeats 4000000 in
set_option maxRecDepth 100000 in
theorem ct_X1_loadsIfChanged {l : Launch} {D : va_G} {g : Nat → ClassId} {qa : Nat → Nat} {E0 : Nat → va_E} {b : Nat} {p1 : Int32} {p2 : Int32} {men_n : Int32} {md_n : Int32} {day_n : Int32} {drw_n : Int32} {bu_n : Nat → Int32} {st_n : Nat → Int32} {ki_n : Nat → Int32} {we_n : Nat → Int32} {wo_n : Nat → Int32} {wr_n : Nat → Int32} (hb_n : b + 7 ≤ 74) (hG_n : Mu g qa E0 b men_n md_n day_n drw_n bu_n st_n ki_n we_n wo_n wr_n) {R : Int32} (hf : fX1_loadsIfChanged p1 p2 md_n day_n ki_n we_n wo_n wr_n = some R) : MI l yX1_loadsIfChanged wsX1_loadsIfChanged 2 D g qa E0 [.ref (qa b), .int p1, .int p2] R (fun E => E = E0) := by
  refine MI.mk (by decide) rfl (Nat.le_of_ble_eq_true rfl) ?_
  intro p e s m args below meth c ls Q X hret hP hS hl
  have hl : lv_has ls 6 [(0, .ref (qa b)), (1, .int p1), (2, .int p2)] := hl
  rw [fX1_loadsIfChanged] at hf
  refine lv_iconst (v := 1) X.1 X.2.1 dX1_loadsIfChanged_0 (by decide) ?_
  refine lv_iload_n X.1 X.2.1 dX1_loadsIfChanged_1 rfl (lv_at hl 1 rfl) ?_
  refine lv_ishl X.1 X.2.1 dX1_loadsIfChanged_2 ?_
  refine lv_iconst (v := 1) X.1 X.2.1 dX1_loadsIfChanged_3 (by decide) ?_
  refine lv_iload_n X.1 X.2.1 dX1_loadsIfChanged_4 rfl (lv_at hl 2 rfl) ?_
  refine lv_ishl X.1 X.2.1 dX1_loadsIfChanged_5 ?_
  refine lv_ior X.1 X.2.1 dX1_loadsIfChanged_6 ?_
  obtain ⟨x1, ex1, hf⟩ := nm_of hf
  refine lv_top_as ex1 ?_
  refine lv_istore_n (lv' := [(3, .int x1), (0, .ref (qa b)), (1, .int p1), (2, .int p2)]) X.1 X.2.1 dX1_loadsIfChanged_7 rfl hl (by decide) rfl (fun ls hl => ?_)
  refine lv_aload_n X.1 X.2.1 dX1_loadsIfChanged_8 rfl (lv_at hl 1 rfl) ?_
  refine x_get X hP hG_n.1 (by omega) rfl in_X1_loadsIfChanged_X1 7 (by decide) (by decide +kernel) rfl rfl dX1_loadsIfChanged_9 ?_
  refine lv_iload_n X.1 X.2.1 dX1_loadsIfChanged_12 rfl (lv_at hl 2 rfl) ?_
  obtain ⟨hi2, hf⟩ := gin_of hf
  refine x_iald X hP hG_n.2.2.2.2.2.2 (by omega) hi2 dX1_loadsIfChanged_13 ?_
  obtain ⟨x3, ex3, hf⟩ := nm_of hf
  refine lv_top_as ex3 ?_
  refine lv_istore (lv' := [(4, .int x3), (3, .int x1), (0, .ref (qa b)), (1, .int p1), (2, .int p2)]) X.1 X.2.1 dX1_loadsIfChanged_14 hl (by decide) rfl (fun ls hl => ?_)
  refine lv_aload_n X.1 X.2.1 dX1_loadsIfChanged_16 rfl (lv_at hl 2 rfl) ?_
  refine x_get X hP hG_n.1 (by omega) rfl in_X1_loadsIfChanged_X1 7 (by decide) (by decide +kernel) rfl rfl dX1_loadsIfChanged_17 ?_
  refine lv_iload_n X.1 X.2.1 dX1_loadsIfChanged_20 rfl (lv_at hl 4 rfl) ?_
  obtain ⟨hi4, hf⟩ := gin_of hf
  refine x_iald X hP hG_n.2.2.2.2.2.2 (by omega) hi4 dX1_loadsIfChanged_21 ?_
  obtain ⟨x5, ex5, hf⟩ := nm_of hf
  refine lv_top_as ex5 ?_
  refine lv_istore (lv' := [(5, .int x5), (4, .int x3), (3, .int x1), (0, .ref (qa b)), (1, .int p1), (2, .int p2)]) X.1 X.2.1 dX1_loadsIfChanged_22 hl (by decide) rfl (fun ls hl => ?_)
  refine lv_aload_n X.1 X.2.1 dX1_loadsIfChanged_24 rfl (lv_at hl 3 rfl) ?_
  refine lv_iload X.1 X.2.1 dX1_loadsIfChanged_25 (lv_at hl 1 rfl) ?_
  refine lv_aload_n X.1 X.2.1 dX1_loadsIfChanged_27 rfl (lv_at hl 3 rfl) ?_
  refine lv_iload X.1 X.2.1 dX1_loadsIfChanged_28 (lv_at hl 1 rfl) ?_
  obtain ⟨r6, hr6, hf⟩ := bd_of hf
  refine x_rdVi X hP hS hG_n.1 (by omega) rfl (n := 1) (As := [.int x3]) (ct_X1_wornBy (by omega) hG_n hr6) gX1_loadsIfChanged_X1_wornBy rfl (by decide +kernel) ⟨by decide, by decide⟩ rfl hl.1 rfl (Nat.le_of_ble_eq_true rfl) dX1_loadsIfChanged_30 (fun H locs hP hS => ?_)
  refine lv_iload_n X.1 X.2.1 dX1_loadsIfChanged_33 rfl (lv_at hl 2 rfl) ?_
  refine lv_ixor X.1 X.2.1 dX1_loadsIfChanged_34 ?_
  refine lv_aload_n X.1 X.2.1 dX1_loadsIfChanged_35 rfl (lv_at hl 3 rfl) ?_
  refine x_get X hP hG_n.1 (by omega) rfl in_X1_loadsIfChanged_X1 8 (by decide) (by decide +kernel) rfl rfl dX1_loadsIfChanged_36 ?_
  obtain ⟨r7, hr7, hf⟩ := bd_of hf
  refine x_rdVi X hP hS hG_n.1 (by omega) rfl (n := 3) (As := [.int x3, .int (r6 ^^^ x1), .int day_n]) (ct_X1_loadOfSet (by omega) hG_n hr7) gX1_loadsIfChanged_X1_loadOfSet rfl (by decide +kernel) ⟨by decide, by decide⟩ rfl hl.1 rfl (Nat.le_of_ble_eq_true rfl) dX1_loadsIfChanged_39 (fun H locs hP hS => ?_)
  refine lv_aload_n X.1 X.2.1 dX1_loadsIfChanged_42 rfl (lv_at hl 3 rfl) ?_
  refine lv_iload X.1 X.2.1 dX1_loadsIfChanged_43 (lv_at hl 0 rfl) ?_
  refine lv_aload_n X.1 X.2.1 dX1_loadsIfChanged_45 rfl (lv_at hl 3 rfl) ?_
  refine lv_iload X.1 X.2.1 dX1_loadsIfChanged_46 (lv_at hl 0 rfl) ?_
  obtain ⟨r8, hr8, hf⟩ := bd_of hf
  refine x_rdVi X hP hS hG_n.1 (by omega) rfl (n := 1) (As := [.int x5]) (ct_X1_wornBy (by omega) hG_n hr8) gX1_loadsIfChanged_X1_wornBy rfl (by decide +kernel) ⟨by decide, by decide⟩ rfl hl.1 rfl (Nat.le_of_ble_eq_true rfl) dX1_loadsIfChanged_48 (fun H locs hP hS => ?_)
  refine lv_iload_n X.1 X.2.1 dX1_loadsIfChanged_51 rfl (lv_at hl 2 rfl) ?_
  refine lv_ixor X.1 X.2.1 dX1_loadsIfChanged_52 ?_
  refine lv_aload_n X.1 X.2.1 dX1_loadsIfChanged_53 rfl (lv_at hl 3 rfl) ?_
  refine x_get X hP hG_n.1 (by omega) rfl in_X1_loadsIfChanged_X1 8 (by decide) (by decide +kernel) rfl rfl dX1_loadsIfChanged_54 ?_
  obtain ⟨r9, hr9, hf⟩ := bd_of hf
  refine x_rdVi X hP hS hG_n.1 (by omega) rfl (n := 3) (As := [.int x5, .int (r8 ^^^ x1), .int day_n]) (ct_X1_loadOfSet (by omega) hG_n hr9) gX1_loadsIfChanged_X1_loadOfSet rfl (by decide +kernel) ⟨by decide, by decide⟩ rfl hl.1 rfl (Nat.le_of_ble_eq_true rfl) dX1_loadsIfChanged_57 (fun H locs hP hS => ?_)
  refine lv_iadd X.1 X.2.1 dX1_loadsIfChanged_60 ?_
  obtain rfl := Option.some.inj hf
  exact hret _ _ _ _ _ _ dX1_loadsIfChanged_61 rfl rfl (rfl) hP hS
def bX1_passDay_2 (men_n : Int32) (md_n : Int32) (day_n : Int32) (bu_n : Nat → Int32) (ki_n : Nat → Int32) (we_n : Nat → Int32) (wo_n : Nat → Int32) (wr_n : Nat → Int32) (K1 : ((Int32 × (Nat → Int32))) → Option (Int32 × (Nat → Int32))) : ((Int32 × (Nat → Int32))) → Option (Int32 × (Nat → Int32))
  | (v1_1, st_n_1) => if men_n ≤ v1_1 then (some (day_n + 1, st_n_1)) else (gin v1_1 5 ((fX1_strengthAfter v1_1 (st_n_1 (Int32.toNatClampNeg v1_1)) day_n md_n bu_n ki_n we_n wo_n wr_n).bind (fun r4 => gin v1_1 5 (nm (v1_1 + 1) (fun x6 => K1 (x6, upd st_n_1 (Int32.toNatClampNeg v1_1) r4))))))
def fX1_passDay   (men_n : Int32) (md_n : Int32) (day_n : Int32) (bu_n : Nat → Int32) (st_n : Nat → Int32) (ki_n : Nat → Int32) (we_n : Nat → Int32) (wo_n : Nat → Int32) (wr_n : Nat → Int32) : Option (Int32 × (Nat → Int32)) := lp (bX1_passDay_2 men_n md_n day_n bu_n ki_n we_n wo_n wr_n) FU (0, st_n)
theorem in_X1_passDay_X1 : ∀ w ∈ wsX10, w ∈ wsX1_passDay := by decide +kernel
set_option maxHeartbeats 4000000 in
set_option maxRecDepth 100000 in
theorem ct_X1_passDay {l : Launch} {D : va_G} {g : Nat → ClassId} {qa : Nat → Nat} {E0 : Nat → va_E} {b : Nat} {men_n : Int32} {md_n : Int32} {day_n : Int32} {drw_n : Int32} {bu_n : Nat → Int32} {st_n : Nat → Int32} {ki_n : Nat → Int32} {we_n : Nat → Int32} {wo_n : Nat → Int32} {wr_n : Nat → Int32} (hb_n : b + 7 ≤ 74) (hG_n : Mu g qa E0 b men_n md_n day_n drw_n bu_n st_n ki_n we_n wo_n wr_n) {R : (Int32 × (Nat → Int32))} (hf : fX1_passDay men_n md_n day_n bu_n st_n ki_n we_n wo_n wr_n = some R) : MV l yX1_passDay wsX1_passDay 4 D g qa E0 [.ref (qa b)] (fun E => Mu g qa E b men_n md_n R.1 drw_n bu_n R.2 ki_n we_n wo_n wr_n ∧ ∀ j, (j < b ∨ b + 7 ≤ j) → E j = E0 j) := by
  refine MV.mk (by decide) rfl (Nat.le_of_ble_eq_true rfl) ?_
  intro p e s m args below meth c ls Q X hret hP hS hl
  have hl : lv_has ls 2 [(0, .ref (qa b))] := hl
  have hfr : ∀ j, (j < b ∨ b + 7 ≤ j) → E0 j = E0 j := fun _ _ => rfl
  rw [fX1_passDay] at hf
  refine lv_iconst (v := 0) X.1 X.2.1 dX1_passDay_0 (by decide) ?_
  refine lv_istore_n (lv' := [(1, .int 0), (0, .ref (qa b))]) X.1 X.2.1 dX1_passDay_1 rfl hl (by decide) rfl (fun ls hl => ?_)
  have lp1 : ∀ (n1 : Nat) (v1_1 : Int32) (st_n_1 : Nat → Int32) (E : Nat → va_E) (H : Heap) (locs : List Loc) (ls : Array Slot), lp (bX1_passDay_2 men_n md_n day_n bu_n ki_n we_n wo_n wr_n) n1 (v1_1, st_n_1) = some R → va_P D vwCl (WD qa E) H → va_S (gA qa s.heap.size) s.heap H locs → Mu g qa E b men_n md_n day_n drw_n bu_n st_n_1 ki_n we_n wo_n wr_n → (∀ j, (j < b ∨ b + 7 ≤ j) → E j = E0 j) → lv_has ls 2 [(0, .ref (qa b)), (1, .int v1_1)] → W p l e (rmf 4) s m args below meth c H locs 0 0 Q (F0 m 2 ls []) := by
    intro n1
    induction n1 with
    | zero =>
      intro v1_1 st_n_1 E H locs ls hf
      exact absurd hf (by intro h; cases h)
    | succ n1 ih1 =>
      intro v1_1 st_n_1 E H locs ls hf hP hS hG_n hfr hl
      have hf : bX1_passDay_2 men_n md_n day_n bu_n ki_n we_n wo_n wr_n (lp (bX1_passDay_2 men_n md_n day_n bu_n ki_n we_n wo_n wr_n) n1) (v1_1, st_n_1) = some R := hf
      rw [bX1_passDay_2] at hf
      refine lv_iload_n X.1 X.2.1 dX1_passDay_2 rfl (lv_at hl 1 rfl) ?_
      refine lv_aload_n X.1 X.2.1 dX1_passDay_3 rfl (lv_at hl 0 rfl) ?_
      refine x_get X hP hG_n.1 (by omega) rfl in_X1_passDay_X1 0 (by decide) (by decide +kernel) rfl rfl dX1_passDay_4 ?_
      refine lv_icmp_ge (tgt := 37) X.1 X.2.1 dX1_passDay_7 (by decide) (fun c2 => ?_) (fun c2 => ?_)
      · have hf := ifp hf c2
        refine lv_aload_n X.1 X.2.1 dX1_passDay_37 rfl (lv_at hl 0 rfl) ?_
        refine lv_dup X.1 X.2.1 dX1_passDay_38 rfl ?_
        refine x_get X hP hG_n.1 (by omega) rfl in_X1_passDay_X1 8 (by decide) (by decide +kernel) rfl rfl dX1_passDay_39 ?_
        refine lv_iconst (v := 1) X.1 X.2.1 dX1_passDay_42 (by decide) ?_
        refine lv_iadd X.1 X.2.1 dX1_passDay_43 ?_
        refine x_put (ty := .int) X hP hS hG_n.1 (by omega) rfl in_X1_passDay_X1 tyX1 tyX1_ok nmX1 8 (by decide) (by decide +kernel) rfl rfl (by decide +kernel) rfl rfl (Nat.le_of_ble_eq_true rfl) dX1_passDay_44 (fun E H locs h1 hk hP hS => ?_)
        have hG_n := Mu_set_0 hG_n h1 hk
        have hfr : ∀ j, (j < b ∨ b + 7 ≤ j) → E j = E0 j := fun j o0 => (hk j (by omega)).trans (hfr j o0)
        obtain rfl := Option.some.inj hf
        exact hret _ _ _ _ _ dX1_passDay_47 (⟨hG_n, hfr⟩) hP hS
      · have hf := ifn hf c2
        refine lv_aload_n X.1 X.2.1 dX1_passDay_10 rfl (lv_at hl 0 rfl) ?_
        refine x_get X hP hG_n.1 (by omega) rfl in_X1_passDay_X1 2 (by decide) (by decide +kernel) rfl rfl dX1_passDay_11 ?_
        refine lv_iload_n X.1 X.2.1 dX1_passDay_14 rfl (lv_at hl 1 rfl) ?_
        refine lv_aload_n X.1 X.2.1 dX1_passDay_15 rfl (lv_at hl 0 rfl) ?_
        refine lv_iload_n X.1 X.2.1 dX1_passDay_16 rfl (lv_at hl 1 rfl) ?_
        refine lv_aload_n X.1 X.2.1 dX1_passDay_17 rfl (lv_at hl 0 rfl) ?_
        refine x_get X hP hG_n.1 (by omega) rfl in_X1_passDay_X1 2 (by decide) (by decide +kernel) rfl rfl dX1_passDay_18 ?_
        refine lv_iload_n X.1 X.2.1 dX1_passDay_21 rfl (lv_at hl 1 rfl) ?_
        obtain ⟨hi3, hf⟩ := gin_of hf
        refine x_iald X hP hG_n.2.2.1 (by omega) hi3 dX1_passDay_22 ?_
        refine lv_aload_n X.1 X.2.1 dX1_passDay_23 rfl (lv_at hl 0 rfl) ?_
        refine x_get X hP hG_n.1 (by omega) rfl in_X1_passDay_X1 8 (by decide) (by decide +kernel) rfl rfl dX1_passDay_24 ?_
        obtain ⟨r4, hr4, hf⟩ := bd_of hf
        refine x_rdVi X hP hS hG_n.1 (by omega) rfl (n := 3) (As := [.int v1_1, .int (st_n_1 (Int32.toNatClampNeg v1_1)), .int day_n]) (ct_X1_strengthAfter (by omega) hG_n hr4) gX1_passDay_X1_strengthAfter rfl (by decide +kernel) ⟨by decide, by decide⟩ rfl hl.1 rfl (Nat.le_of_ble_eq_true rfl) dX1_passDay_27 (fun H locs hP hS => ?_)
        obtain ⟨hi5, hf⟩ := gin_of hf
        refine x_iast X hP hS hG_n.2.2.1 (by omega) hi5 dX1_passDay_30 (fun E H locs h1 hk hP hS => ?_)
        have hG_n := Mu_set_2 hG_n h1 hk
        have hfr : ∀ j, (j < b ∨ b + 7 ≤ j) → E j = E0 j := fun j o0 => (hk j (by omega)).trans (hfr j o0)
        obtain ⟨x6, ex6, hf⟩ := nm_of hf
        refine lv_iinc (v := x6) (lv' := [(1, .int x6), (0, .ref (qa b))]) X.1 X.2.1 dX1_passDay_31 hl (k := 1) rfl (by rw [ex6]; rfl) (by decide) rfl (fun ls hl => ?_)
        refine lv_goto (tgt := 2) X.1 X.2.1 dX1_passDay_34 (by decide) ?_
        exact ih1 x6 (upd st_n_1 (Int32.toNatClampNeg v1_1) r4) _ _ _ _ hf hP hS hG_n hfr (lv_sub hl [1, 0] rfl)
  exact lp1 FU 0 st_n _ _ _ _ hf hP hS hG_n hfr (lv_sub hl [1, 0] rfl)
def fX1_wornByTwo (p1 : Int32) (p2 : Int32)  (wr_n : Nat → Int32) : Option Int32 := gin p1 6 (if (wr_n (Int32.toNatClampNeg p1)) = (-4) then (some 0) else (gin p2 6 (if (wr_n (Int32.toNatClampNeg p2)) = (-4) then (some 0) else (gin p1 6 (gin p2 6 (if (wr_n (Int32.toNatClampNeg p1)) = (wr_n (Int32.toNatClampNeg p2)) then (some 0) else (some 1)))))))
theorem in_X1_wornByTwo_X1 : ∀ w ∈ wsX10, w ∈ wsX1_wornByTwo := by decide +kernel
set_option maxHeartbeats 4000000 in
set_option maxRecDepth 100000 in
theorem ct_X1_wornByTwo {l : Launch} {D : va_G} {g : Nat → ClassId} {qa : Nat → Nat} {E0 : Nat → va_E} {b : Nat} {p1 : Int32} {p2 : Int32} {men_n : Int32} {md_n : Int32} {day_n : Int32} {drw_n : Int32} {bu_n : Nat → Int32} {st_n : Nat → Int32} {ki_n : Nat → Int32} {we_n : Nat → Int32} {wo_n : Nat → Int32} {wr_n : Nat → Int32} (hb_n : b + 7 ≤ 74) (hG_n : Mu g qa E0 b men_n md_n day_n drw_n bu_n st_n ki_n we_n wo_n wr_n) {R : Int32} (hf : fX1_wornByTwo p1 p2 wr_n = some R) : MI l yX1_wornByTwo wsX1_wornByTwo 0 D g qa E0 [.ref (qa b), .int p1, .int p2] R (fun E => E = E0) := by
  refine MI.mk (by decide) rfl (Nat.le_of_ble_eq_true rfl) ?_
  intro p e s m args below meth c ls Q X hret hP hS hl
  have hl : lv_has ls 3 [(0, .ref (qa b)), (1, .int p1), (2, .int p2)] := hl
  rw [fX1_wornByTwo] at hf
  refine lv_aload_n X.1 X.2.1 dX1_wornByTwo_0 rfl (lv_at hl 0 rfl) ?_
  refine x_get X hP hG_n.1 (by omega) rfl in_X1_wornByTwo_X1 7 (by decide) (by decide +kernel) rfl rfl dX1_wornByTwo_1 ?_
  refine lv_iload_n X.1 X.2.1 dX1_wornByTwo_4 rfl (lv_at hl 1 rfl) ?_
  obtain ⟨hi1, hf⟩ := gin_of hf
  refine x_iald X hP hG_n.2.2.2.2.2.2 (by omega) hi1 dX1_wornByTwo_5 ?_
  refine lv_bipush (v := (-4)) X.1 X.2.1 dX1_wornByTwo_6 (by decide) ?_
  refine lv_icmp_eq (tgt := 41) X.1 X.2.1 dX1_wornByTwo_8 (by decide) (fun c2 => ?_) (fun c2 => ?_)
  · have hf := ifp hf c2
    refine lv_iconst (v := 0) X.1 X.2.1 dX1_wornByTwo_41 (by decide) ?_
    obtain rfl := Option.some.inj hf
    exact hret _ _ _ _ _ _ dX1_wornByTwo_42 rfl rfl (rfl) hP hS
  · have hf := ifn hf c2
    refine lv_aload_n X.1 X.2.1 dX1_wornByTwo_11 rfl (lv_at hl 0 rfl) ?_
    refine x_get X hP hG_n.1 (by omega) rfl in_X1_wornByTwo_X1 7 (by decide) (by decide +kernel) rfl rfl dX1_wornByTwo_12 ?_
    refine lv_iload_n X.1 X.2.1 dX1_wornByTwo_15 rfl (lv_at hl 2 rfl) ?_
    obtain ⟨hi3, hf⟩ := gin_of hf
    refine x_iald X hP hG_n.2.2.2.2.2.2 (by omega) hi3 dX1_wornByTwo_16 ?_
    refine lv_bipush (v := (-4)) X.1 X.2.1 dX1_wornByTwo_17 (by decide) ?_
    refine lv_icmp_eq (tgt := 41) X.1 X.2.1 dX1_wornByTwo_19 (by decide) (fun c4 => ?_) (fun c4 => ?_)
    · have hf := ifp hf c4
      refine lv_iconst (v := 0) X.1 X.2.1 dX1_wornByTwo_41 (by decide) ?_
      obtain rfl := Option.some.inj hf
      exact hret _ _ _ _ _ _ dX1_wornByTwo_42 rfl rfl (rfl) hP hS
    · have hf := ifn hf c4
      refine lv_aload_n X.1 X.2.1 dX1_wornByTwo_22 rfl (lv_at hl 0 rfl) ?_
      refine x_get X hP hG_n.1 (by omega) rfl in_X1_wornByTwo_X1 7 (by decide) (by decide +kernel) rfl rfl dX1_wornByTwo_23 ?_
      refine lv_iload_n X.1 X.2.1 dX1_wornByTwo_26 rfl (lv_at hl 1 rfl) ?_
      obtain ⟨hi5, hf⟩ := gin_of hf
      refine x_iald X hP hG_n.2.2.2.2.2.2 (by omega) hi5 dX1_wornByTwo_27 ?_
      refine lv_aload_n X.1 X.2.1 dX1_wornByTwo_28 rfl (lv_at hl 0 rfl) ?_
      refine x_get X hP hG_n.1 (by omega) rfl in_X1_wornByTwo_X1 7 (by decide) (by decide +kernel) rfl rfl dX1_wornByTwo_29 ?_
      refine lv_iload_n X.1 X.2.1 dX1_wornByTwo_32 rfl (lv_at hl 2 rfl) ?_
      obtain ⟨hi6, hf⟩ := gin_of hf
      refine x_iald X hP hG_n.2.2.2.2.2.2 (by omega) hi6 dX1_wornByTwo_33 ?_
      refine lv_icmp_eq (tgt := 41) X.1 X.2.1 dX1_wornByTwo_34 (by decide) (fun c7 => ?_) (fun c7 => ?_)
      · have hf := ifp hf c7
        refine lv_iconst (v := 0) X.1 X.2.1 dX1_wornByTwo_41 (by decide) ?_
        obtain rfl := Option.some.inj hf
        exact hret _ _ _ _ _ _ dX1_wornByTwo_42 rfl rfl (rfl) hP hS
      · have hf := ifn hf c7
        refine lv_iconst (v := 1) X.1 X.2.1 dX1_wornByTwo_37 (by decide) ?_
        refine lv_goto (tgt := 42) X.1 X.2.1 dX1_wornByTwo_38 (by decide) ?_
        obtain rfl := Option.some.inj hf
        exact hret _ _ _ _ _ _ dX1_wornByTwo_42 rfl rfl (rfl) hP hS
def bX1_medalsWith_wo_5 (md_n : Int32) (wo_n : Nat → Int32) (p2 : Int32) (K1 : ((Int32 × Int32)) → Option Int32) : ((Int32 × Int32)) → Option Int32
  | (v3_1, v4_1) => if md_n ≤ v4_1 then (some v3_1) else (gin v4_1 6 (if (wo_n (Int32.toNatClampNeg v4_1)) = p2 then (nm (v3_1 ||| (1 <<< (v4_1 &&& 31))) (fun x6 => nm (v4_1 + 1) (fun x7 => K1 (x6, x7)))) else (nm (v4_1 + 1) (fun x5 => K1 (v3_1, x5)))))
def fX1_medalsWith_wo (p2 : Int32)  (md_n : Int32) (wo_n : Nat → Int32) : Option Int32 := lp (bX1_medalsWith_wo_5 md_n wo_n p2) FU (0, 0)
set_option maxHeartbeats 4000000 in
set_option maxRecDepth 100000 in
theorem ct_X1_medalsWith_wo {l : Launch} {D : va_G} {g : Nat → ClassId} {qa : Nat → Nat} {E0 : Nat → va_E} {b : Nat} {p2 : Int32} {men_n : Int32} {md_n : Int32} {day_n : Int32} {drw_n : Int32} {bu_n : Nat → Int32} {st_n : Nat → Int32} {ki_n : Nat → Int32} {we_n : Nat → Int32} {wo_n : Nat → Int32} {wr_n : Nat → Int32} (hb_n : b + 7 ≤ 74) (hG_n : Mu g qa E0 b men_n md_n day_n drw_n bu_n st_n ki_n we_n wo_n wr_n) {R : Int32} (hf : fX1_medalsWith_wo p2 md_n wo_n = some R) : MI l yX1_medalsWith wsX1_medalsWith 0 D g qa E0 [.ref (qa b), .ref (qa (b + 5)), .int p2] R (fun E => E = E0) := by
  refine MI.mk (by decide) rfl (Nat.le_of_ble_eq_true rfl) ?_
  intro p e s m args below meth c ls Q X hret hP hS hl
  have hl : lv_has ls 5 [(0, .ref (qa b)), (1, .ref (qa (b + 5))), (2, .int p2)] := hl
  rw [fX1_medalsWith_wo] at hf
  refine lv_iconst (v := 0) X.1 X.2.1 dX1_medalsWith_0 (by decide) ?_
  refine lv_istore_n (lv' := [(3, .int 0), (0, .ref (qa b)), (1, .ref (qa (b + 5))), (2, .int p2)]) X.1 X.2.1 dX1_medalsWith_1 rfl hl (by decide) rfl (fun ls hl => ?_)
  refine lv_iconst (v := 0) X.1 X.2.1 dX1_medalsWith_2 (by decide) ?_
  refine lv_istore (lv' := [(4, .int 0), (3, .int 0), (0, .ref (qa b)), (1, .ref (qa (b + 5))), (2, .int p2)]) X.1 X.2.1 dX1_medalsWith_3 hl (by decide) rfl (fun ls hl => ?_)
  have lp1 : ∀ (n1 : Nat) (v3_1 : Int32) (v4_1 : Int32) (H : Heap) (locs : List Loc) (ls : Array Slot), lp (bX1_medalsWith_wo_5 md_n wo_n p2) n1 (v3_1, v4_1) = some R → va_P D vwCl (WD qa E0) H → va_S (gA qa s.heap.size) s.heap H locs → lv_has ls 5 [(0, .ref (qa b)), (1, .ref (qa (b + 5))), (2, .int p2), (3, .int v3_1), (4, .int v4_1)] → W p l e (rmf 0) s m args below meth c H locs 0 0 Q (F0 m 5 ls []) := by
    intro n1
    induction n1 with
    | zero =>
      intro v3_1 v4_1 H locs ls hf
      exact absurd hf (by intro h; cases h)
    | succ n1 ih1 =>
      intro v3_1 v4_1 H locs ls hf hP hS hl
      have hf : bX1_medalsWith_wo_5 md_n wo_n p2 (lp (bX1_medalsWith_wo_5 md_n wo_n p2) n1) (v3_1, v4_1) = some R := hf
      rw [bX1_medalsWith_wo_5] at hf
      refine lv_iload X.1 X.2.1 dX1_medalsWith_5 (lv_at hl 4 rfl) ?_
      refine lv_aload_n X.1 X.2.1 dX1_medalsWith_7 rfl (lv_at hl 0 rfl) ?_
      refine x_get X hP hG_n.1 (by omega) rfl in_X1_medalsWith_X1 3 (by decide) (by decide +kernel) rfl rfl dX1_medalsWith_8 ?_
      refine lv_icmp_ge (tgt := 35) X.1 X.2.1 dX1_medalsWith_11 (by decide) (fun c2 => ?_) (fun c2 => ?_)
      · have hf := ifp hf c2
        refine lv_iload_n X.1 X.2.1 dX1_medalsWith_35 rfl (lv_at hl 3 rfl) ?_
        obtain rfl := Option.some.inj hf
        exact hret _ _ _ _ _ _ dX1_medalsWith_36 rfl rfl (rfl) hP hS
      · have hf := ifn hf c2
        refine lv_aload_n X.1 X.2.1 dX1_medalsWith_14 rfl (lv_at hl 1 rfl) ?_
        refine lv_iload X.1 X.2.1 dX1_medalsWith_15 (lv_at hl 4 rfl) ?_
        obtain ⟨hi3, hf⟩ := gin_of hf
        refine x_iald X hP hG_n.2.2.2.2.2.1 (by omega) hi3 dX1_medalsWith_17 ?_
        refine lv_iload_n X.1 X.2.1 dX1_medalsWith_18 rfl (lv_at hl 2 rfl) ?_
        refine lv_icmp_ne (tgt := 29) X.1 X.2.1 dX1_medalsWith_19 (by decide) (fun c4 => ?_) (fun c4 => ?_)
        · have hf := ifn hf c4
          obtain ⟨x5, ex5, hf⟩ := nm_of hf
          refine lv_iinc (v := x5) (lv' := [(4, .int x5), (0, .ref (qa b)), (1, .ref (qa (b + 5))), (2, .int p2), (3, .int v3_1)]) X.1 X.2.1 dX1_medalsWith_29 hl (k := 4) rfl (by rw [ex5]; rfl) (by decide) rfl (fun ls hl => ?_)
          refine lv_goto (tgt := 5) X.1 X.2.1 dX1_medalsWith_32 (by decide) ?_
          exact ih1 v3_1 x5 _ _ _ hf hP hS (lv_sub hl [1, 2, 3, 4, 0] rfl)
        · have hf := ifp hf c4
          refine lv_iload_n X.1 X.2.1 dX1_medalsWith_22 rfl (lv_at hl 3 rfl) ?_
          refine lv_iconst (v := 1) X.1 X.2.1 dX1_medalsWith_23 (by decide) ?_
          refine lv_iload X.1 X.2.1 dX1_medalsWith_24 (lv_at hl 4 rfl) ?_
          refine lv_ishl X.1 X.2.1 dX1_medalsWith_26 ?_
          refine lv_ior X.1 X.2.1 dX1_medalsWith_27 ?_
          obtain ⟨x6, ex6, hf⟩ := nm_of hf
          refine lv_top_as ex6 ?_
          refine lv_istore_n (lv' := [(3, .int x6), (0, .ref (qa b)), (1, .ref (qa (b + 5))), (2, .int p2), (4, .int v4_1)]) X.1 X.2.1 dX1_medalsWith_28 rfl hl (by decide) rfl (fun ls hl => ?_)
          obtain ⟨x7, ex7, hf⟩ := nm_of hf
          refine lv_iinc (v := x7) (lv' := [(4, .int x7), (3, .int x6), (0, .ref (qa b)), (1, .ref (qa (b + 5))), (2, .int p2)]) X.1 X.2.1 dX1_medalsWith_29 hl (k := 4) rfl (by rw [ex7]; rfl) (by decide) rfl (fun ls hl => ?_)
          refine lv_goto (tgt := 5) X.1 X.2.1 dX1_medalsWith_32 (by decide) ?_
          exact ih1 x6 x7 _ _ _ hf hP hS (lv_sub hl [2, 3, 4, 1, 0] rfl)
  exact lp1 FU 0 0 _ _ _ hf hP hS (lv_sub hl [2, 3, 4, 1, 0] rfl)
def fX1_woundsOf (p1 : Int32)  (md_n : Int32) (wo_n : Nat → Int32) : Option Int32 := (fX1_medalsWith_wo p1 md_n wo_n).bind (fun r1 => some r1)
theorem in_X1_woundsOf_X1 : ∀ w ∈ wsX10, w ∈ wsX1_woundsOf := by decide +kernel
set_option maxHeartbeats 4000000 in
set_option maxRecDepth 100000 in
theorem ct_X1_woundsOf {l : Launch} {D : va_G} {g : Nat → ClassId} {qa : Nat → Nat} {E0 : Nat → va_E} {b : Nat} {p1 : Int32} {men_n : Int32} {md_n : Int32} {day_n : Int32} {drw_n : Int32} {bu_n : Nat → Int32} {st_n : Nat → Int32} {ki_n : Nat → Int32} {we_n : Nat → Int32} {wo_n : Nat → Int32} {wr_n : Nat → Int32} (hb_n : b + 7 ≤ 74) (hG_n : Mu g qa E0 b men_n md_n day_n drw_n bu_n st_n ki_n we_n wo_n wr_n) {R : Int32} (hf : fX1_woundsOf p1 md_n wo_n = some R) : MI l yX1_woundsOf wsX1_woundsOf 1 D g qa E0 [.ref (qa b), .int p1] R (fun E => E = E0) := by
  refine MI.mk (by decide) rfl (Nat.le_of_ble_eq_true rfl) ?_
  intro p e s m args below meth c ls Q X hret hP hS hl
  have hl : lv_has ls 2 [(0, .ref (qa b)), (1, .int p1)] := hl
  rw [fX1_woundsOf] at hf
  refine lv_aload_n X.1 X.2.1 dX1_woundsOf_0 rfl (lv_at hl 0 rfl) ?_
  refine lv_aload_n X.1 X.2.1 dX1_woundsOf_1 rfl (lv_at hl 0 rfl) ?_
  refine x_get X hP hG_n.1 (by omega) rfl in_X1_woundsOf_X1 6 (by decide) (by decide +kernel) rfl rfl dX1_woundsOf_2 ?_
  refine lv_iload_n X.1 X.2.1 dX1_woundsOf_5 rfl (lv_at hl 1 rfl) ?_
  obtain ⟨r1, hr1, hf⟩ := bd_of hf
  refine x_rdVi X hP hS hG_n.1 (by omega) rfl (n := 2) (As := [.ref (qa (b + 5)), .int p1]) (ct_X1_medalsWith_wo (by omega) hG_n hr1) gX1_woundsOf_X1_medalsWith rfl (by decide +kernel) ⟨by decide, by decide⟩ rfl hl.1 rfl (Nat.le_of_ble_eq_true rfl) dX1_woundsOf_6 (fun H locs hP hS => ?_)
  obtain rfl := Option.some.inj hf
  exact hret _ _ _ _ _ _ dX1_woundsOf_9 rfl rfl (rfl) hP hS
def fX1_take   (bu_n : Nat → Int32) (st_n : Nat → Int32) (ki_n : Nat → Int32) (we_n : Nat → Int32) (wo_n : Nat → Int32) (wr_n : Nat → Int32) (men_o : Int32) (md_o : Int32) (day_o : Int32) (drw_o : Int32) (bu_o : Nat → Int32) (st_o : Nat → Int32) (ki_o : Nat → Int32) (we_o : Nat → Int32) (wo_o : Nat → Int32) (wr_o : Nat → Int32) : Option (Int32 × Int32 × Int32 × Int32 × (Nat → Int32) × (Nat → Int32) × (Nat → Int32) × (Nat → Int32) × (Nat → Int32) × (Nat → Int32)) := gcp 0 0 5 5 5 (gcp 0 0 5 5 5 (gcp 0 0 6 6 6 (gcp 0 0 6 6 6 (gcp 0 0 6 6 6 (gcp 0 0 6 6 6 (some (men_o, md_o, day_o, drw_o, va_cpy bu_o bu_n (Int32.toNatClampNeg 0) (Int32.toNatClampNeg 0) (Int32.toNatClampNeg 5), va_cpy st_o st_n (Int32.toNatClampNeg 0) (Int32.toNatClampNeg 0) (Int32.toNatClampNeg 5), va_cpy ki_o ki_n (Int32.toNatClampNeg 0) (Int32.toNatClampNeg 0) (Int32.toNatClampNeg 6), va_cpy we_o we_n (Int32.toNatClampNeg 0) (Int32.toNatClampNeg 0) (Int32.toNatClampNeg 6), va_cpy wo_o wo_n (Int32.toNatClampNeg 0) (Int32.toNatClampNeg 0) (Int32.toNatClampNeg 6), va_cpy wr_o wr_n (Int32.toNatClampNeg 0) (Int32.toNatClampNeg 0) (Int32.toNatClampNeg 6))))))))
theorem in_X1_take_X1 : ∀ w ∈ wsX10, w ∈ wsX1_take := by decide +kernel
set_option maxHeartbeats 4000000 in
set_option maxRecDepth 100000 in
theorem ct_X1_take {l : Launch} {D : va_G} {g : Nat → ClassId} {qa : Nat → Nat} {E0 : Nat → va_E} {b : Nat} {b2 : Nat} {men_n : Int32} {md_n : Int32} {day_n : Int32} {drw_n : Int32} {bu_n : Nat → Int32} {st_n : Nat → Int32} {ki_n : Nat → Int32} {we_n : Nat → Int32} {wo_n : Nat → Int32} {wr_n : Nat → Int32} {men_o : Int32} {md_o : Int32} {day_o : Int32} {drw_o : Int32} {bu_o : Nat → Int32} {st_o : Nat → Int32} {ki_o : Nat → Int32} {we_o : Nat → Int32} {wo_o : Nat → Int32} {wr_o : Nat → Int32} (hb_n : b + 7 ≤ 74) (hG_n : Mu g qa E0 b men_n md_n day_n drw_n bu_n st_n ki_n we_n wo_n wr_n) (hb_o : b2 + 7 ≤ 74) (hG_o : Mu g qa E0 b2 men_o md_o day_o drw_o bu_o st_o ki_o we_o wo_o wr_o) (hx0 : b + 7 ≤ b2 ∨ b2 + 7 ≤ b) {R : (Int32 × Int32 × Int32 × Int32 × (Nat → Int32) × (Nat → Int32) × (Nat → Int32) × (Nat → Int32) × (Nat → Int32) × (Nat → Int32))} (hf : fX1_take bu_n st_n ki_n we_n wo_n wr_n men_o md_o day_o drw_o bu_o st_o ki_o we_o wo_o wr_o = some R) : MV l yX1_take wsX1_take 1 D g qa E0 [.ref (qa b), .ref (qa b2)] (fun E => Mu g qa E b R.1 R.2.1 R.2.2.1 R.2.2.2.1 R.2.2.2.2.1 R.2.2.2.2.2.1 R.2.2.2.2.2.2.1 R.2.2.2.2.2.2.2.1 R.2.2.2.2.2.2.2.2.1 R.2.2.2.2.2.2.2.2.2 ∧ ∀ j, (j < b ∨ b + 7 ≤ j) → E j = E0 j) := by
  refine MV.mk (by decide) rfl (Nat.le_of_ble_eq_true rfl) ?_
  intro p e s m args below meth c ls Q X hret hP hS hl
  have hl : lv_has ls 2 [(0, .ref (qa b)), (1, .ref (qa b2))] := hl
  have hfr : ∀ j, (j < b ∨ b + 7 ≤ j) → E0 j = E0 j := fun _ _ => rfl
  rw [fX1_take] at hf
  refine lv_aload_n X.1 X.2.1 dX1_take_0 rfl (lv_at hl 0 rfl) ?_
  refine lv_aload_n X.1 X.2.1 dX1_take_1 rfl (lv_at hl 1 rfl) ?_
  refine x_get X hP hG_o.1 (by omega) rfl in_X1_take_X1 0 (by decide) (by decide +kernel) rfl rfl dX1_take_2 ?_
  refine x_put (ty := .int) X hP hS hG_n.1 (by omega) rfl in_X1_take_X1 tyX1 tyX1_ok nmX1 0 (by decide) (by decide +kernel) rfl rfl (by decide +kernel) rfl rfl (Nat.le_of_ble_eq_true rfl) dX1_take_5 (fun E H locs h1 hk hP hS => ?_)
  have hG_n := Mu_set_0 hG_n h1 hk
  have hG_o := Mu_kept hG_o (fun j h8 h9 => hk j (by omega))
  have hfr : ∀ j, (j < b ∨ b + 7 ≤ j) → E j = E0 j := fun j o0 => (hk j (by omega)).trans (hfr j o0)
  refine lv_aload_n X.1 X.2.1 dX1_take_8 rfl (lv_at hl 1 rfl) ?_
  refine x_get X hP hG_o.1 (by omega) rfl in_X1_take_X1 1 (by decide) (by decide +kernel) rfl rfl dX1_take_9 ?_
  refine lv_iconst (v := 0) X.1 X.2.1 dX1_take_12 (by decide) ?_
  refine lv_aload_n X.1 X.2.1 dX1_take_13 rfl (lv_at hl 0 rfl) ?_
  refine x_get X hP hG_n.1 (by omega) rfl in_X1_take_X1 1 (by decide) (by decide +kernel) rfl rfl dX1_take_14 ?_
  refine lv_iconst (v := 0) X.1 X.2.1 dX1_take_17 (by decide) ?_
  refine lv_iconst (v := 5) X.1 X.2.1 dX1_take_18 (by decide) ?_
  obtain ⟨hy1, hf⟩ := gcp_of hf
  refine x_copyi X hP hS hG_o.2.1 (by omega) hG_n.2.1 (by omega) (index := 43) (by decide +kernel) (by decide +kernel) (by decide +kernel) (by decide +kernel) hl.1 hy1.1 hy1.2.1 hy1.2.2.1 hy1.2.2.2.1 hy1.2.2.2.2 (by decide) (Nat.le_of_ble_eq_true rfl) dX1_take_19 (fun E H locs h1 hk hP hS => ?_)
  have hG_n := Mu_set_1 hG_n h1 hk
  have hG_o := Mu_kept hG_o (fun j h8 h9 => hk j (by omega))
  have hfr : ∀ j, (j < b ∨ b + 7 ≤ j) → E j = E0 j := fun j o0 => (hk j (by omega)).trans (hfr j o0)
  refine lv_aload_n X.1 X.2.1 dX1_take_22 rfl (lv_at hl 1 rfl) ?_
  refine x_get X hP hG_o.1 (by omega) rfl in_X1_take_X1 2 (by decide) (by decide +kernel) rfl rfl dX1_take_23 ?_
  refine lv_iconst (v := 0) X.1 X.2.1 dX1_take_26 (by decide) ?_
  refine lv_aload_n X.1 X.2.1 dX1_take_27 rfl (lv_at hl 0 rfl) ?_
  refine x_get X hP hG_n.1 (by omega) rfl in_X1_take_X1 2 (by decide) (by decide +kernel) rfl rfl dX1_take_28 ?_
  refine lv_iconst (v := 0) X.1 X.2.1 dX1_take_31 (by decide) ?_
  refine lv_iconst (v := 5) X.1 X.2.1 dX1_take_32 (by decide) ?_
  obtain ⟨hy2, hf⟩ := gcp_of hf
  refine x_copyi X hP hS hG_o.2.2.1 (by omega) hG_n.2.2.1 (by omega) (index := 43) (by decide +kernel) (by decide +kernel) (by decide +kernel) (by decide +kernel) hl.1 hy2.1 hy2.2.1 hy2.2.2.1 hy2.2.2.2.1 hy2.2.2.2.2 (by decide) (Nat.le_of_ble_eq_true rfl) dX1_take_33 (fun E H locs h1 hk hP hS => ?_)
  have hG_n := Mu_set_2 hG_n h1 hk
  have hG_o := Mu_kept hG_o (fun j h8 h9 => hk j (by omega))
  have hfr : ∀ j, (j < b ∨ b + 7 ≤ j) → E j = E0 j := fun j o0 => (hk j (by omega)).trans (hfr j o0)
  refine lv_aload_n X.1 X.2.1 dX1_take_36 rfl (lv_at hl 0 rfl) ?_
  refine lv_aload_n X.1 X.2.1 dX1_take_37 rfl (lv_at hl 1 rfl) ?_
  refine x_get X hP hG_o.1 (by omega) rfl in_X1_take_X1 3 (by decide) (by decide +kernel) rfl rfl dX1_take_38 ?_
  refine x_put (ty := .int) X hP hS hG_n.1 (by omega) rfl in_X1_take_X1 tyX1 tyX1_ok nmX1 3 (by decide) (by decide +kernel) rfl rfl (by decide +kernel) rfl rfl (Nat.le_of_ble_eq_true rfl) dX1_take_41 (fun E H locs h1 hk hP hS => ?_)
  have hG_n := Mu_set_0 hG_n h1 hk
  have hG_o := Mu_kept hG_o (fun j h8 h9 => hk j (by omega))
  have hfr : ∀ j, (j < b ∨ b + 7 ≤ j) → E j = E0 j := fun j o0 => (hk j (by omega)).trans (hfr j o0)
  refine lv_aload_n X.1 X.2.1 dX1_take_44 rfl (lv_at hl 1 rfl) ?_
  refine x_get X hP hG_o.1 (by omega) rfl in_X1_take_X1 4 (by decide) (by decide +kernel) rfl rfl dX1_take_45 ?_
  refine lv_iconst (v := 0) X.1 X.2.1 dX1_take_48 (by decide) ?_
  refine lv_aload_n X.1 X.2.1 dX1_take_49 rfl (lv_at hl 0 rfl) ?_
  refine x_get X hP hG_n.1 (by omega) rfl in_X1_take_X1 4 (by decide) (by decide +kernel) rfl rfl dX1_take_50 ?_
  refine lv_iconst (v := 0) X.1 X.2.1 dX1_take_53 (by decide) ?_
  refine lv_bipush (v := 6) X.1 X.2.1 dX1_take_54 (by decide) ?_
  obtain ⟨hy3, hf⟩ := gcp_of hf
  refine x_copyi X hP hS hG_o.2.2.2.1 (by omega) hG_n.2.2.2.1 (by omega) (index := 43) (by decide +kernel) (by decide +kernel) (by decide +kernel) (by decide +kernel) hl.1 hy3.1 hy3.2.1 hy3.2.2.1 hy3.2.2.2.1 hy3.2.2.2.2 (by decide) (Nat.le_of_ble_eq_true rfl) dX1_take_56 (fun E H locs h1 hk hP hS => ?_)
  have hG_n := Mu_set_3 hG_n h1 hk
  have hG_o := Mu_kept hG_o (fun j h8 h9 => hk j (by omega))
  have hfr : ∀ j, (j < b ∨ b + 7 ≤ j) → E j = E0 j := fun j o0 => (hk j (by omega)).trans (hfr j o0)
  refine lv_aload_n X.1 X.2.1 dX1_take_59 rfl (lv_at hl 1 rfl) ?_
  refine x_get X hP hG_o.1 (by omega) rfl in_X1_take_X1 5 (by decide) (by decide +kernel) rfl rfl dX1_take_60 ?_
  refine lv_iconst (v := 0) X.1 X.2.1 dX1_take_63 (by decide) ?_
  refine lv_aload_n X.1 X.2.1 dX1_take_64 rfl (lv_at hl 0 rfl) ?_
  refine x_get X hP hG_n.1 (by omega) rfl in_X1_take_X1 5 (by decide) (by decide +kernel) rfl rfl dX1_take_65 ?_
  refine lv_iconst (v := 0) X.1 X.2.1 dX1_take_68 (by decide) ?_
  refine lv_bipush (v := 6) X.1 X.2.1 dX1_take_69 (by decide) ?_
  obtain ⟨hy4, hf⟩ := gcp_of hf
  refine x_copyi X hP hS hG_o.2.2.2.2.1 (by omega) hG_n.2.2.2.2.1 (by omega) (index := 43) (by decide +kernel) (by decide +kernel) (by decide +kernel) (by decide +kernel) hl.1 hy4.1 hy4.2.1 hy4.2.2.1 hy4.2.2.2.1 hy4.2.2.2.2 (by decide) (Nat.le_of_ble_eq_true rfl) dX1_take_71 (fun E H locs h1 hk hP hS => ?_)
  have hG_n := Mu_set_4 hG_n h1 hk
  have hG_o := Mu_kept hG_o (fun j h8 h9 => hk j (by omega))
  have hfr : ∀ j, (j < b ∨ b + 7 ≤ j) → E j = E0 j := fun j o0 => (hk j (by omega)).trans (hfr j o0)
  refine lv_aload_n X.1 X.2.1 dX1_take_74 rfl (lv_at hl 1 rfl) ?_
  refine x_get X hP hG_o.1 (by omega) rfl in_X1_take_X1 6 (by decide) (by decide +kernel) rfl rfl dX1_take_75 ?_
  refine lv_iconst (v := 0) X.1 X.2.1 dX1_take_78 (by decide) ?_
  refine lv_aload_n X.1 X.2.1 dX1_take_79 rfl (lv_at hl 0 rfl) ?_
  refine x_get X hP hG_n.1 (by omega) rfl in_X1_take_X1 6 (by decide) (by decide +kernel) rfl rfl dX1_take_80 ?_
  refine lv_iconst (v := 0) X.1 X.2.1 dX1_take_83 (by decide) ?_
  refine lv_bipush (v := 6) X.1 X.2.1 dX1_take_84 (by decide) ?_
  obtain ⟨hy5, hf⟩ := gcp_of hf
  refine x_copyi X hP hS hG_o.2.2.2.2.2.1 (by omega) hG_n.2.2.2.2.2.1 (by omega) (index := 43) (by decide +kernel) (by decide +kernel) (by decide +kernel) (by decide +kernel) hl.1 hy5.1 hy5.2.1 hy5.2.2.1 hy5.2.2.2.1 hy5.2.2.2.2 (by decide) (Nat.le_of_ble_eq_true rfl) dX1_take_86 (fun E H locs h1 hk hP hS => ?_)
  have hG_n := Mu_set_5 hG_n h1 hk
  have hG_o := Mu_kept hG_o (fun j h8 h9 => hk j (by omega))
  have hfr : ∀ j, (j < b ∨ b + 7 ≤ j) → E j = E0 j := fun j o0 => (hk j (by omega)).trans (hfr j o0)
  refine lv_aload_n X.1 X.2.1 dX1_take_89 rfl (lv_at hl 1 rfl) ?_
  refine x_get X hP hG_o.1 (by omega) rfl in_X1_take_X1 7 (by decide) (by decide +kernel) rfl rfl dX1_take_90 ?_
  refine lv_iconst (v := 0) X.1 X.2.1 dX1_take_93 (by decide) ?_
  refine lv_aload_n X.1 X.2.1 dX1_take_94 rfl (lv_at hl 0 rfl) ?_
  refine x_get X hP hG_n.1 (by omega) rfl in_X1_take_X1 7 (by decide) (by decide +kernel) rfl rfl dX1_take_95 ?_
  refine lv_iconst (v := 0) X.1 X.2.1 dX1_take_98 (by decide) ?_
  refine lv_bipush (v := 6) X.1 X.2.1 dX1_take_99 (by decide) ?_
  obtain ⟨hy6, hf⟩ := gcp_of hf
  refine x_copyi X hP hS hG_o.2.2.2.2.2.2 (by omega) hG_n.2.2.2.2.2.2 (by omega) (index := 43) (by decide +kernel) (by decide +kernel) (by decide +kernel) (by decide +kernel) hl.1 hy6.1 hy6.2.1 hy6.2.2.1 hy6.2.2.2.1 hy6.2.2.2.2 (by decide) (Nat.le_of_ble_eq_true rfl) dX1_take_101 (fun E H locs h1 hk hP hS => ?_)
  have hG_n := Mu_set_6 hG_n h1 hk
  have hG_o := Mu_kept hG_o (fun j h8 h9 => hk j (by omega))
  have hfr : ∀ j, (j < b ∨ b + 7 ≤ j) → E j = E0 j := fun j o0 => (hk j (by omega)).trans (hfr j o0)
  refine lv_aload_n X.1 X.2.1 dX1_take_104 rfl (lv_at hl 0 rfl) ?_
  refine lv_aload_n X.1 X.2.1 dX1_take_105 rfl (lv_at hl 1 rfl) ?_
  refine x_get X hP hG_o.1 (by omega) rfl in_X1_take_X1 8 (by decide) (by decide +kernel) rfl rfl dX1_take_106 ?_
  refine x_put (ty := .int) X hP hS hG_n.1 (by omega) rfl in_X1_take_X1 tyX1 tyX1_ok nmX1 8 (by decide) (by decide +kernel) rfl rfl (by decide +kernel) rfl rfl (Nat.le_of_ble_eq_true rfl) dX1_take_109 (fun E H locs h1 hk hP hS => ?_)
  have hG_n := Mu_set_0 hG_n h1 hk
  have hG_o := Mu_kept hG_o (fun j h8 h9 => hk j (by omega))
  have hfr : ∀ j, (j < b ∨ b + 7 ≤ j) → E j = E0 j := fun j o0 => (hk j (by omega)).trans (hfr j o0)
  refine lv_aload_n X.1 X.2.1 dX1_take_112 rfl (lv_at hl 0 rfl) ?_
  refine lv_aload_n X.1 X.2.1 dX1_take_113 rfl (lv_at hl 1 rfl) ?_
  refine x_get X hP hG_o.1 (by omega) rfl in_X1_take_X1 9 (by decide) (by decide +kernel) rfl rfl dX1_take_114 ?_
  refine x_put (ty := .int) X hP hS hG_n.1 (by omega) rfl in_X1_take_X1 tyX1 tyX1_ok nmX1 9 (by decide) (by decide +kernel) rfl rfl (by decide +kernel) rfl rfl (Nat.le_of_ble_eq_true rfl) dX1_take_117 (fun E H locs h1 hk hP hS => ?_)
  have hG_n := Mu_set_0 hG_n h1 hk
  have hG_o := Mu_kept hG_o (fun j h8 h9 => hk j (by omega))
  have hfr : ∀ j, (j < b ∨ b + 7 ≤ j) → E j = E0 j := fun j o0 => (hk j (by omega)).trans (hfr j o0)
  obtain rfl := Option.some.inj hf
  exact hret _ _ _ _ _ dX1_take_120 (⟨hG_n, hfr⟩) hP hS
