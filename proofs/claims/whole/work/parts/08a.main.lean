set_option maxRecDepth 20000 in
theorem ggX5_at_X1_hasMedal : GoodIn wsX5_at wsX1_hasMedal := goodIn_r _ [10, 11, 49, 50, 51, 52, 53, 54, 55, 56, 57, 58] (by decide +kernel) (by decide +kernel)
set_option maxRecDepth 20000 in
theorem gX5_at_X1_hasMedal : GoodIn wsX5_at (wsV RX5 104 RX1 yX1_hasMedal wsX1_hasMedal) := goodIn_app (goodIn_of _ (by decide +kernel)) ggX5_at_X1_hasMedal
set_option maxRecDepth 20000 in
theorem ggX5_at_X1_bearsNow : GoodIn wsX5_at wsX1_bearsNow := goodIn_r _ [15, 16, 17, 18, 19, 20, 9, 21, 22, 23, 24, 25, 11, 26, 27, 28, 29, 30, 31, 32, 33, 34, 35, 36, 37, 38, 39, 49, 50, 51, 52, 53, 54, 55, 56, 57, 58] (by decide +kernel) (by decide +kernel)
set_option maxRecDepth 20000 in
theorem gX5_at_X1_bearsNow : GoodIn wsX5_at (wsV RX5 119 RX1 yX1_bearsNow wsX1_bearsNow) := goodIn_app (goodIn_of _ (by decide +kernel)) ggX5_at_X1_bearsNow
theorem dX5_at_0 : decode cX5_at 0 = .ok (.aload_n 0, 1) := by decide +kernel
theorem dX5_at_1 : decode cX5_at 1 = .ok (.getfield 10, 3) := by decide +kernel
theorem dX5_at_4 : decode cX5_at 4 = .ok (.iload_n 1, 1) := by decide +kernel
theorem dX5_at_5 : decode cX5_at 5 = .ok (.invokevirtual 104, 3) := by decide +kernel
theorem dX5_at_8 : decode cX5_at 8 = .ok (.ifCond .ne 5, 3) := by decide +kernel
theorem dX5_at_11 : decode cX5_at 11 = .ok (.iconst (-1), 1) := by decide +kernel
theorem dX5_at_12 : decode cX5_at 12 = .ok (.ireturn, 1) := by decide +kernel
theorem dX5_at_13 : decode cX5_at 13 = .ok (.iload_n 2, 1) := by decide +kernel
theorem dX5_at_14 : decode cX5_at 14 = .ok (.tableswitch 83 0 4 #[34, 44, 54, 64, 74], 34) := by decide +kernel
theorem dX5_at_48 : decode cX5_at 48 = .ok (.aload_n 0, 1) := by decide +kernel
theorem dX5_at_49 : decode cX5_at 49 = .ok (.getfield 10, 3) := by decide +kernel
theorem dX5_at_52 : decode cX5_at 52 = .ok (.getfield 107, 3) := by decide +kernel
theorem dX5_at_55 : decode cX5_at 55 = .ok (.iload_n 1, 1) := by decide +kernel
theorem dX5_at_56 : decode cX5_at 56 = .ok (.iaload, 1) := by decide +kernel
theorem dX5_at_57 : decode cX5_at 57 = .ok (.ireturn, 1) := by decide +kernel
theorem dX5_at_58 : decode cX5_at 58 = .ok (.aload_n 0, 1) := by decide +kernel
theorem dX5_at_59 : decode cX5_at 59 = .ok (.getfield 10, 3) := by decide +kernel
theorem dX5_at_62 : decode cX5_at 62 = .ok (.getfield 110, 3) := by decide +kernel
theorem dX5_at_65 : decode cX5_at 65 = .ok (.iload_n 1, 1) := by decide +kernel
theorem dX5_at_66 : decode cX5_at 66 = .ok (.iaload, 1) := by decide +kernel
theorem dX5_at_67 : decode cX5_at 67 = .ok (.ireturn, 1) := by decide +kernel
theorem dX5_at_68 : decode cX5_at 68 = .ok (.aload_n 0, 1) := by decide +kernel
theorem dX5_at_69 : decode cX5_at 69 = .ok (.getfield 10, 3) := by decide +kernel
theorem dX5_at_72 : decode cX5_at 72 = .ok (.getfield 113, 3) := by decide +kernel
theorem dX5_at_75 : decode cX5_at 75 = .ok (.iload_n 1, 1) := by decide +kernel
theorem dX5_at_76 : decode cX5_at 76 = .ok (.iaload, 1) := by decide +kernel
theorem dX5_at_77 : decode cX5_at 77 = .ok (.ireturn, 1) := by decide +kernel
theorem dX5_at_78 : decode cX5_at 78 = .ok (.aload_n 0, 1) := by decide +kernel
theorem dX5_at_79 : decode cX5_at 79 = .ok (.getfield 10, 3) := by decide +kernel
theorem dX5_at_82 : decode cX5_at 82 = .ok (.getfield 116, 3) := by decide +kernel
theorem dX5_at_85 : decode cX5_at 85 = .ok (.iload_n 1, 1) := by decide +kernel
theorem dX5_at_86 : decode cX5_at 86 = .ok (.iaload, 1) := by decide +kernel
theorem dX5_at_87 : decode cX5_at 87 = .ok (.ireturn, 1) := by decide +kernel
theorem dX5_at_88 : decode cX5_at 88 = .ok (.aload_n 0, 1) := by decide +kernel
theorem dX5_at_89 : decode cX5_at 89 = .ok (.getfield 10, 3) := by decide +kernel
theorem dX5_at_92 : decode cX5_at 92 = .ok (.iload_n 1, 1) := by decide +kernel
theorem dX5_at_93 : decode cX5_at 93 = .ok (.invokevirtual 119, 3) := by decide +kernel
theorem dX5_at_96 : decode cX5_at 96 = .ok (.ireturn, 1) := by decide +kernel
theorem dX5_at_97 : decode cX5_at 97 = .ok (.iconst (-1), 1) := by decide +kernel
theorem dX5_at_98 : decode cX5_at 98 = .ok (.ireturn, 1) := by decide +kernel
set_option maxRecDepth 20000 in
theorem ggX5_count_X1_allBent : GoodIn wsX5_count wsX1_allBent := goodIn_r _ [11, 12, 13, 14, 15, 10, 16, 17, 18, 19, 20, 21, 22, 23, 24, 25, 26, 27, 28, 29, 30, 31, 32, 33, 34, 35, 36, 37, 38, 39, 40, 41, 42, 43, 44, 45, 46, 47, 48, 49, 50, 69, 70, 71, 72, 73, 74, 75, 76, 77, 78] (by decide +kernel) (by decide +kernel)
set_option maxRecDepth 20000 in
theorem gX5_count_X1_allBent : GoodIn wsX5_count (wsV RX5 145 RX1 yX1_allBent wsX1_allBent) := goodIn_app (goodIn_of _ (by decide +kernel)) ggX5_count_X1_allBent
set_option maxRecDepth 20000 in
theorem ggX5_count_X1_wornBy : GoodIn wsX5_count wsX1_wornBy := goodIn_r _ [26, 27, 28, 29, 30, 10, 31, 32, 69, 70, 71, 72, 73, 74, 75, 76, 77, 78] (by decide +kernel) (by decide +kernel)
set_option maxRecDepth 20000 in
theorem gX5_count_X1_wornBy : GoodIn wsX5_count (wsV RX5 97 RX1 yX1_wornBy wsX1_wornBy) := goodIn_app (goodIn_of _ (by decide +kernel)) ggX5_count_X1_wornBy
set_option maxRecDepth 20000 in
theorem ggX5_count_X1_allStrength : GoodIn wsX5_count wsX1_allStrength := goodIn_r _ [55, 12, 18, 69, 70, 71, 72, 73, 74, 75, 76, 77, 78] (by decide +kernel) (by decide +kernel)
set_option maxRecDepth 20000 in
theorem gX5_count_X1_allStrength : GoodIn wsX5_count (wsV RX5 149 RX1 yX1_allStrength wsX1_allStrength) := goodIn_app (goodIn_of _ (by decide +kernel)) ggX5_count_X1_allStrength
set_option maxRecDepth 20000 in
theorem ggX5_count_X1_allLoads : GoodIn wsX5_count wsX1_allLoads := goodIn_r _ [59, 12, 17, 19, 20, 21, 10, 22, 23, 24, 25, 26, 27, 28, 29, 30, 31, 32, 33, 34, 35, 36, 37, 38, 39, 40, 41, 42, 43, 44, 45, 46, 47, 48, 49, 50, 69, 70, 71, 72, 73, 74, 75, 76, 77, 78] (by decide +kernel) (by decide +kernel)
set_option maxRecDepth 20000 in
theorem gX5_count_X1_allLoads : GoodIn wsX5_count (wsV RX5 152 RX1 yX1_allLoads wsX1_allLoads) := goodIn_app (goodIn_of _ (by decide +kernel)) ggX5_count_X1_allLoads
theorem dX5_count_0 : decode cX5_count 0 = .ok (.iload_n 1, 1) := by decide +kernel
theorem dX5_count_1 : decode cX5_count 1 = .ok (.tableswitch 113 0 7 #[47, 55, 63, 71, 79, 89, 97, 105], 47) := by decide +kernel
theorem dX5_count_48 : decode cX5_count 48 = .ok (.aload_n 0, 1) := by decide +kernel
theorem dX5_count_49 : decode cX5_count 49 = .ok (.getfield 10, 3) := by decide +kernel
theorem dX5_count_52 : decode cX5_count 52 = .ok (.getfield 59, 3) := by decide +kernel
theorem dX5_count_55 : decode cX5_count 55 = .ok (.ireturn, 1) := by decide +kernel
theorem dX5_count_56 : decode cX5_count 56 = .ok (.aload_n 0, 1) := by decide +kernel
theorem dX5_count_57 : decode cX5_count 57 = .ok (.getfield 10, 3) := by decide +kernel
theorem dX5_count_60 : decode cX5_count 60 = .ok (.getfield 74, 3) := by decide +kernel
theorem dX5_count_63 : decode cX5_count 63 = .ok (.ireturn, 1) := by decide +kernel
theorem dX5_count_64 : decode cX5_count 64 = .ok (.aload_n 0, 1) := by decide +kernel
theorem dX5_count_65 : decode cX5_count 65 = .ok (.getfield 10, 3) := by decide +kernel
theorem dX5_count_68 : decode cX5_count 68 = .ok (.getfield 88, 3) := by decide +kernel
theorem dX5_count_71 : decode cX5_count 71 = .ok (.ireturn, 1) := by decide +kernel
theorem dX5_count_72 : decode cX5_count 72 = .ok (.aload_n 0, 1) := by decide +kernel
theorem dX5_count_73 : decode cX5_count 73 = .ok (.getfield 10, 3) := by decide +kernel
theorem dX5_count_76 : decode cX5_count 76 = .ok (.invokevirtual 145, 3) := by decide +kernel
theorem dX5_count_79 : decode cX5_count 79 = .ok (.ireturn, 1) := by decide +kernel
theorem dX5_count_80 : decode cX5_count 80 = .ok (.aload_n 0, 1) := by decide +kernel
theorem dX5_count_81 : decode cX5_count 81 = .ok (.getfield 10, 3) := by decide +kernel
theorem dX5_count_84 : decode cX5_count 84 = .ok (.bipush (-4), 2) := by decide +kernel
theorem dX5_count_86 : decode cX5_count 86 = .ok (.invokevirtual 97, 3) := by decide +kernel
theorem dX5_count_89 : decode cX5_count 89 = .ok (.ireturn, 1) := by decide +kernel
theorem dX5_count_90 : decode cX5_count 90 = .ok (.aload_n 0, 1) := by decide +kernel
theorem dX5_count_91 : decode cX5_count 91 = .ok (.getfield 10, 3) := by decide +kernel
theorem dX5_count_94 : decode cX5_count 94 = .ok (.invokevirtual 149, 3) := by decide +kernel
theorem dX5_count_97 : decode cX5_count 97 = .ok (.ireturn, 1) := by decide +kernel
theorem dX5_count_98 : decode cX5_count 98 = .ok (.aload_n 0, 1) := by decide +kernel
theorem dX5_count_99 : decode cX5_count 99 = .ok (.getfield 10, 3) := by decide +kernel
theorem dX5_count_102 : decode cX5_count 102 = .ok (.invokevirtual 152, 3) := by decide +kernel
theorem dX5_count_105 : decode cX5_count 105 = .ok (.ireturn, 1) := by decide +kernel
theorem dX5_count_106 : decode cX5_count 106 = .ok (.aload_n 0, 1) := by decide +kernel
theorem dX5_count_107 : decode cX5_count 107 = .ok (.getfield 19, 3) := by decide +kernel
theorem dX5_count_110 : decode cX5_count 110 = .ok (.getfield 155, 3) := by decide +kernel
theorem dX5_count_113 : decode cX5_count 113 = .ok (.ireturn, 1) := by decide +kernel
theorem dX5_count_114 : decode cX5_count 114 = .ok (.iconst (-1), 1) := by decide +kernel
theorem dX5_count_115 : decode cX5_count 115 = .ok (.ireturn, 1) := by decide +kernel
set_option maxRecDepth 20000 in
theorem ggX5_days_X5_passDays : GoodIn wsX5_days wsX5_passDays := goodIn_r _ [5, 6, 7, 8, 9, 10, 11, 12, 13, 14, 15, 16, 17, 18, 19, 20, 21, 22, 23, 24, 25, 26, 27, 28, 29, 30, 31, 32, 33, 34, 35, 36, 37, 38, 39, 40, 41, 42, 43, 44, 45, 46, 47, 48, 49, 50, 51, 52, 53, 54, 55, 56, 57, 58, 59, 60, 61, 62, 63, 64, 65, 66, 67, 68, 69, 70, 71, 72, 73, 74, 75, 76, 77, 78, 79, 80, 81, 82, 83, 84, 4, 85, 86, 87, 88, 89, 90, 91, 92, 93, 94, 95, 96, 97, 98, 99, 100, 101, 102, 103, 104, 105, 106, 107, 108, 109, 110, 111, 112, 113, 114, 115, 116, 117, 118, 119] (by decide +kernel) (by decide +kernel)
set_option maxRecDepth 20000 in
theorem gX5_days_X5_passDays : GoodIn wsX5_days (wsV RX5 158 RX5 yX5_passDays wsX5_passDays) := goodIn_app (goodIn_of _ (by decide +kernel)) ggX5_days_X5_passDays
theorem dX5_days_0 : decode cX5_days 0 = .ok (.aload_n 0, 1) := by decide +kernel
theorem dX5_days_1 : decode cX5_days 1 = .ok (.iload_n 1, 1) := by decide +kernel
theorem dX5_days_2 : decode cX5_days 2 = .ok (.iconst 0, 1) := by decide +kernel
theorem dX5_days_3 : decode cX5_days 3 = .ok (.invokevirtual 158, 3) := by decide +kernel
theorem dX5_days_6 : decode cX5_days 6 = .ok (.ireturn, 1) := by decide +kernel
set_option maxRecDepth 20000 in
theorem ggX5_drift_X5_passDays : GoodIn wsX5_drift wsX5_passDays := goodIn_r _ [5, 6, 7, 8, 9, 10, 11, 12, 13, 14, 15, 16, 17, 18, 19, 20, 21, 22, 23, 24, 25, 26, 27, 28, 29, 30, 31, 32, 33, 34, 35, 36, 37, 38, 39, 40, 41, 42, 43, 44, 45, 46, 47, 48, 49, 50, 51, 52, 53, 54, 55, 56, 57, 58, 59, 60, 61, 62, 63, 64, 65, 66, 67, 68, 69, 70, 71, 72, 73, 74, 75, 76, 77, 78, 79, 80, 81, 82, 83, 84, 4, 85, 86, 87, 88, 89, 90, 91, 92, 93, 94, 95, 96, 97, 98, 99, 100, 101, 102, 103, 104, 105, 106, 107, 108, 109, 110, 111, 112, 113, 114, 115, 116, 117, 118, 119] (by decide +kernel) (by decide +kernel)
set_option maxRecDepth 20000 in
theorem gX5_drift_X5_passDays : GoodIn wsX5_drift (wsV RX5 158 RX5 yX5_passDays wsX5_passDays) := goodIn_app (goodIn_of _ (by decide +kernel)) ggX5_drift_X5_passDays
theorem dX5_drift_0 : decode cX5_drift 0 = .ok (.aload_n 0, 1) := by decide +kernel
theorem dX5_drift_1 : decode cX5_drift 1 = .ok (.iload_n 1, 1) := by decide +kernel
theorem dX5_drift_2 : decode cX5_drift 2 = .ok (.iconst 1, 1) := by decide +kernel
theorem dX5_drift_3 : decode cX5_drift 3 = .ok (.invokevirtual 158, 3) := by decide +kernel
theorem dX5_drift_6 : decode cX5_drift 6 = .ok (.ireturn, 1) := by decide +kernel
set_option maxRecDepth 20000 in
theorem ggX5_ahead_X1_hasMan : GoodIn wsX5_ahead wsX1_hasMan := goodIn_r _ [7, 8, 72, 73, 74, 75, 76, 77, 78, 79, 80, 81] (by decide +kernel) (by decide +kernel)
set_option maxRecDepth 20000 in
theorem gX5_ahead_X1_hasMan : GoodIn wsX5_ahead (wsV RX5 70 RX1 yX1_hasMan wsX1_hasMan) := goodIn_app (goodIn_of _ (by decide +kernel)) ggX5_ahead_X1_hasMan
set_option maxRecDepth 20000 in
theorem ggX5_ahead_X1_strengthBehind : GoodIn wsX5_ahead wsX1_strengthBehind := goodIn_r _ [12, 13, 14, 15, 16, 17, 6, 18, 19, 20, 21, 22, 23, 24, 25, 26, 27, 28, 29, 30, 31, 32, 33, 34, 35, 36, 37, 38, 39, 40, 41, 42, 43, 44, 45, 46, 47, 48, 49, 50, 51, 52, 53, 54, 55, 56, 57, 58, 59, 60, 61, 72, 73, 74, 75, 76, 77, 78, 79, 80, 81] (by decide +kernel) (by decide +kernel)
set_option maxRecDepth 20000 in
theorem gX5_ahead_X1_strengthBehind : GoodIn wsX5_ahead (wsV RX5 173 RX1 yX1_strengthBehind wsX1_strengthBehind) := goodIn_app (goodIn_of _ (by decide +kernel)) ggX5_ahead_X1_strengthBehind
set_option maxRecDepth 20000 in
theorem ggX5_ahead_X1_loadOn : GoodIn wsX5_ahead wsX1_loadOn := goodIn_r _ [23, 24, 25, 26, 6, 27, 28, 29, 30, 31, 32, 33, 34, 35, 36, 37, 38, 39, 40, 41, 42, 43, 44, 45, 46, 47, 48, 49, 50, 51, 72, 73, 74, 75, 76, 77, 78, 79, 80, 81] (by decide +kernel) (by decide +kernel)
set_option maxRecDepth 20000 in
theorem gX5_ahead_X1_loadOn : GoodIn wsX5_ahead (wsV RX5 91 RX1 yX1_loadOn wsX1_loadOn) := goodIn_app (goodIn_of _ (by decide +kernel)) ggX5_ahead_X1_loadOn
theorem dX5_ahead_0 : decode cX5_ahead 0 = .ok (.aload_n 0, 1) := by decide +kernel
theorem dX5_ahead_1 : decode cX5_ahead 1 = .ok (.getfield 10, 3) := by decide +kernel
theorem dX5_ahead_4 : decode cX5_ahead 4 = .ok (.iload_n 1, 1) := by decide +kernel
theorem dX5_ahead_5 : decode cX5_ahead 5 = .ok (.invokevirtual 70, 3) := by decide +kernel
theorem dX5_ahead_8 : decode cX5_ahead 8 = .ok (.ifCond .eq 22, 3) := by decide +kernel
theorem dX5_ahead_11 : decode cX5_ahead 11 = .ok (.iload_n 2, 1) := by decide +kernel
theorem dX5_ahead_12 : decode cX5_ahead 12 = .ok (.ifCond .lt 18, 3) := by decide +kernel
theorem dX5_ahead_15 : decode cX5_ahead 15 = .ok (.iload_n 2, 1) := by decide +kernel
theorem dX5_ahead_16 : decode cX5_ahead 16 = .ok (.bipush 60, 2) := by decide +kernel
theorem dX5_ahead_18 : decode cX5_ahead 18 = .ok (.if_icmp .gt 12, 3) := by decide +kernel
theorem dX5_ahead_21 : decode cX5_ahead 21 = .ok (.iload_n 3, 1) := by decide +kernel
theorem dX5_ahead_22 : decode cX5_ahead 22 = .ok (.ifCond .lt 8, 3) := by decide +kernel
theorem dX5_ahead_25 : decode cX5_ahead 25 = .ok (.iload_n 3, 1) := by decide +kernel
theorem dX5_ahead_26 : decode cX5_ahead 26 = .ok (.iconst 1, 1) := by decide +kernel
theorem dX5_ahead_27 : decode cX5_ahead 27 = .ok (.if_icmp .le 5, 3) := by decide +kernel
theorem dX5_ahead_30 : decode cX5_ahead 30 = .ok (.iconst (-1), 1) := by decide +kernel
theorem dX5_ahead_31 : decode cX5_ahead 31 = .ok (.ireturn, 1) := by decide +kernel
theorem dX5_ahead_32 : decode cX5_ahead 32 = .ok (.iload_n 3, 1) := by decide +kernel
theorem dX5_ahead_33 : decode cX5_ahead 33 = .ok (.ifCond .ne 15, 3) := by decide +kernel
theorem dX5_ahead_36 : decode cX5_ahead 36 = .ok (.aload_n 0, 1) := by decide +kernel
theorem dX5_ahead_37 : decode cX5_ahead 37 = .ok (.getfield 10, 3) := by decide +kernel
theorem dX5_ahead_40 : decode cX5_ahead 40 = .ok (.iload_n 1, 1) := by decide +kernel
theorem dX5_ahead_41 : decode cX5_ahead 41 = .ok (.iload_n 2, 1) := by decide +kernel
theorem dX5_ahead_42 : decode cX5_ahead 42 = .ok (.invokevirtual 173, 3) := by decide +kernel
theorem dX5_ahead_45 : decode cX5_ahead 45 = .ok (.goto 20, 3) := by decide +kernel
theorem dX5_ahead_48 : decode cX5_ahead 48 = .ok (.aload_n 0, 1) := by decide +kernel
theorem dX5_ahead_49 : decode cX5_ahead 49 = .ok (.getfield 10, 3) := by decide +kernel
theorem dX5_ahead_52 : decode cX5_ahead 52 = .ok (.iload_n 1, 1) := by decide +kernel
theorem dX5_ahead_53 : decode cX5_ahead 53 = .ok (.aload_n 0, 1) := by decide +kernel
theorem dX5_ahead_54 : decode cX5_ahead 54 = .ok (.getfield 10, 3) := by decide +kernel
theorem dX5_ahead_57 : decode cX5_ahead 57 = .ok (.getfield 88, 3) := by decide +kernel
theorem dX5_ahead_60 : decode cX5_ahead 60 = .ok (.iload_n 2, 1) := by decide +kernel
theorem dX5_ahead_61 : decode cX5_ahead 61 = .ok (.iadd, 1) := by decide +kernel
theorem dX5_ahead_62 : decode cX5_ahead 62 = .ok (.invokevirtual 91, 3) := by decide +kernel
theorem dX5_ahead_65 : decode cX5_ahead 65 = .ok (.ireturn, 1) := by decide +kernel
set_option maxRecDepth 20000 in
theorem ggX5_done_X1_hasMan : GoodIn wsX5_done wsX1_hasMan := goodIn_r _ [8, 9, 66, 67, 68, 69, 70, 71, 72, 73, 74, 75] (by decide +kernel) (by decide +kernel)
set_option maxRecDepth 20000 in
theorem gX5_done_X1_hasMan : GoodIn wsX5_done (wsV RX5 70 RX1 yX1_hasMan wsX1_hasMan) := goodIn_app (goodIn_of _ (by decide +kernel)) ggX5_done_X1_hasMan
set_option maxRecDepth 20000 in
theorem ggX5_done_X1_strengthAfter : GoodIn wsX5_done wsX1_strengthAfter := goodIn_r _ [13, 14, 15, 16, 17, 7, 18, 19, 20, 21, 22, 23, 24, 25, 26, 27, 28, 29, 30, 31, 32, 33, 34, 35, 36, 37, 38, 39, 40, 41, 42, 43, 44, 45, 46, 47, 48, 49, 50, 51, 52, 53, 54, 55, 56, 66, 67, 68, 69, 70, 71, 72, 73, 74, 75] (by decide +kernel) (by decide +kernel)
set_option maxRecDepth 20000 in
theorem gX5_done_X1_strengthAfter : GoodIn wsX5_done (wsV RX5 179 RX1 yX1_strengthAfter wsX1_strengthAfter) := goodIn_app (goodIn_of _ (by decide +kernel)) ggX5_done_X1_strengthAfter
theorem dX5_done_0 : decode cX5_done 0 = .ok (.aload_n 0, 1) := by decide +kernel
theorem dX5_done_1 : decode cX5_done 1 = .ok (.getfield 10, 3) := by decide +kernel
theorem dX5_done_4 : decode cX5_done 4 = .ok (.iload_n 1, 1) := by decide +kernel
theorem dX5_done_5 : decode cX5_done 5 = .ok (.invokevirtual 70, 3) := by decide +kernel
theorem dX5_done_8 : decode cX5_done 8 = .ok (.ifCond .ne 5, 3) := by decide +kernel
theorem dX5_done_11 : decode cX5_done 11 = .ok (.iconst (-1), 1) := by decide +kernel
theorem dX5_done_12 : decode cX5_done 12 = .ok (.ireturn, 1) := by decide +kernel
theorem dX5_done_13 : decode cX5_done 13 = .ok (.aload_n 0, 1) := by decide +kernel
theorem dX5_done_14 : decode cX5_done 14 = .ok (.getfield 10, 3) := by decide +kernel
theorem dX5_done_17 : decode cX5_done 17 = .ok (.getfield 85, 3) := by decide +kernel
theorem dX5_done_20 : decode cX5_done 20 = .ok (.iload_n 1, 1) := by decide +kernel
theorem dX5_done_21 : decode cX5_done 21 = .ok (.iaload, 1) := by decide +kernel
theorem dX5_done_22 : decode cX5_done 22 = .ok (.istore_n 2, 1) := by decide +kernel
theorem dX5_done_23 : decode cX5_done 23 = .ok (.iconst 0, 1) := by decide +kernel
theorem dX5_done_24 : decode cX5_done 24 = .ok (.istore_n 3, 1) := by decide +kernel
theorem dX5_done_25 : decode cX5_done 25 = .ok (.iload_n 3, 1) := by decide +kernel
theorem dX5_done_26 : decode cX5_done 26 = .ok (.bipush 60, 2) := by decide +kernel
theorem dX5_done_28 : decode cX5_done 28 = .ok (.if_icmp .gt 34, 3) := by decide +kernel
theorem dX5_done_31 : decode cX5_done 31 = .ok (.iload_n 2, 1) := by decide +kernel
theorem dX5_done_32 : decode cX5_done 32 = .ok (.ifCond .ne 5, 3) := by decide +kernel
theorem dX5_done_35 : decode cX5_done 35 = .ok (.iload_n 3, 1) := by decide +kernel
theorem dX5_done_36 : decode cX5_done 36 = .ok (.ireturn, 1) := by decide +kernel
theorem dX5_done_37 : decode cX5_done 37 = .ok (.aload_n 0, 1) := by decide +kernel
theorem dX5_done_38 : decode cX5_done 38 = .ok (.getfield 10, 3) := by decide +kernel
theorem dX5_done_41 : decode cX5_done 41 = .ok (.iload_n 1, 1) := by decide +kernel
theorem dX5_done_42 : decode cX5_done 42 = .ok (.iload_n 2, 1) := by decide +kernel
theorem dX5_done_43 : decode cX5_done 43 = .ok (.aload_n 0, 1) := by decide +kernel
theorem dX5_done_44 : decode cX5_done 44 = .ok (.getfield 10, 3) := by decide +kernel
theorem dX5_done_47 : decode cX5_done 47 = .ok (.getfield 88, 3) := by decide +kernel
theorem dX5_done_50 : decode cX5_done 50 = .ok (.iload_n 3, 1) := by decide +kernel
theorem dX5_done_51 : decode cX5_done 51 = .ok (.iadd, 1) := by decide +kernel
theorem dX5_done_52 : decode cX5_done 52 = .ok (.invokevirtual 179, 3) := by decide +kernel
theorem dX5_done_55 : decode cX5_done 55 = .ok (.istore_n 2, 1) := by decide +kernel
theorem dX5_done_56 : decode cX5_done 56 = .ok (.iinc 3 1, 3) := by decide +kernel
theorem dX5_done_59 : decode cX5_done 59 = .ok (.goto (-34), 3) := by decide +kernel
theorem dX5_done_62 : decode cX5_done 62 = .ok (.bipush (-4), 2) := by decide +kernel
theorem dX5_done_64 : decode cX5_done 64 = .ok (.ireturn, 1) := by decide +kernel
set_option maxRecDepth 20000 in
theorem ggX5_ever_X1_isBentWithin : GoodIn wsX5_ever wsX1_isBentWithin := goodIn_r _ [7, 8, 9, 10, 11, 12, 6, 13, 14, 15, 16, 17, 18, 19, 20, 21, 22, 23, 24, 25, 26, 27, 28, 29, 30, 31, 32, 33, 34, 35, 36, 37, 38, 39, 40, 41, 42, 43, 44, 45, 46, 47, 48, 49, 50, 51, 52, 53, 54, 55, 56, 66, 67, 68, 69, 70, 71, 72, 73, 74, 75] (by decide +kernel) (by decide +kernel)
set_option maxRecDepth 20000 in
theorem gX5_ever_X1_isBentWithin : GoodIn wsX5_ever (wsV RX5 183 RX1 yX1_isBentWithin wsX1_isBentWithin) := goodIn_app (goodIn_of _ (by decide +kernel)) ggX5_ever_X1_isBentWithin
theorem dX5_ever_0 : decode cX5_ever 0 = .ok (.iconst 0, 1) := by decide +kernel
theorem dX5_ever_1 : decode cX5_ever 1 = .ok (.istore_n 1, 1) := by decide +kernel
theorem dX5_ever_2 : decode cX5_ever 2 = .ok (.iconst 0, 1) := by decide +kernel
theorem dX5_ever_3 : decode cX5_ever 3 = .ok (.istore_n 2, 1) := by decide +kernel
theorem dX5_ever_4 : decode cX5_ever 4 = .ok (.iload_n 2, 1) := by decide +kernel
theorem dX5_ever_5 : decode cX5_ever 5 = .ok (.aload_n 0, 1) := by decide +kernel
theorem dX5_ever_6 : decode cX5_ever 6 = .ok (.getfield 10, 3) := by decide +kernel
theorem dX5_ever_9 : decode cX5_ever 9 = .ok (.getfield 59, 3) := by decide +kernel
theorem dX5_ever_12 : decode cX5_ever 12 = .ok (.if_icmp .ge 28, 3) := by decide +kernel
theorem dX5_ever_15 : decode cX5_ever 15 = .ok (.aload_n 0, 1) := by decide +kernel
theorem dX5_ever_16 : decode cX5_ever 16 = .ok (.getfield 10, 3) := by decide +kernel
theorem dX5_ever_19 : decode cX5_ever 19 = .ok (.iload_n 2, 1) := by decide +kernel
theorem dX5_ever_20 : decode cX5_ever 20 = .ok (.bipush 60, 2) := by decide +kernel
theorem dX5_ever_22 : decode cX5_ever 22 = .ok (.invokevirtual 183, 3) := by decide +kernel
theorem dX5_ever_25 : decode cX5_ever 25 = .ok (.ifCond .eq 9, 3) := by decide +kernel
theorem dX5_ever_28 : decode cX5_ever 28 = .ok (.iload_n 1, 1) := by decide +kernel
theorem dX5_ever_29 : decode cX5_ever 29 = .ok (.iconst 1, 1) := by decide +kernel
theorem dX5_ever_30 : decode cX5_ever 30 = .ok (.iload_n 2, 1) := by decide +kernel
theorem dX5_ever_31 : decode cX5_ever 31 = .ok (.ishl, 1) := by decide +kernel
theorem dX5_ever_32 : decode cX5_ever 32 = .ok (.ior, 1) := by decide +kernel
theorem dX5_ever_33 : decode cX5_ever 33 = .ok (.istore_n 1, 1) := by decide +kernel
theorem dX5_ever_34 : decode cX5_ever 34 = .ok (.iinc 2 1, 3) := by decide +kernel
theorem dX5_ever_37 : decode cX5_ever 37 = .ok (.goto (-33), 3) := by decide +kernel
theorem dX5_ever_40 : decode cX5_ever 40 = .ok (.iload_n 1, 1) := by decide +kernel
theorem dX5_ever_41 : decode cX5_ever 41 = .ok (.ireturn, 1) := by decide +kernel
set_option maxRecDepth 20000 in
theorem ggX5_even_X0_findEven : GoodIn wsX5_even wsX0_findEven := goodIn_r _ [7, 8, 9, 10, 11, 6, 12, 13, 14, 15, 16, 17, 18, 19, 20, 21, 22, 23, 24, 25, 26, 27, 28, 29, 30, 31, 32, 33, 34, 35, 36, 37, 38, 39, 40, 41, 42, 43, 44, 45, 46, 47, 48, 49, 50, 51, 52, 53, 54, 55, 56, 57, 58, 59, 60, 61, 62, 63, 64, 65, 66, 67, 68, 69, 70, 71, 72, 73, 74, 75, 76, 77, 78, 79, 80, 81, 82, 83, 84, 85, 99, 100, 101, 102, 103, 104, 105, 106, 107, 108, 109, 110, 111, 112, 113, 114, 115, 116, 117] (by decide +kernel) (by decide +kernel)
set_option maxRecDepth 20000 in
theorem gX5_even_X0_findEven : GoodIn wsX5_even (wsV RX5 187 RX0 yX0_findEven wsX0_findEven) := goodIn_app (goodIn_of _ (by decide +kernel)) ggX5_even_X0_findEven
set_option maxRecDepth 20000 in
theorem ggX5_even_X0_wouldWear : GoodIn wsX5_even wsX0_wouldWear := goodIn_r _ [89, 63, 99, 100, 101, 102, 103, 104, 105, 106, 107] (by decide +kernel) (by decide +kernel)
set_option maxRecDepth 20000 in
theorem gX5_even_X0_wouldWear : GoodIn wsX5_even (wsV RX5 193 RX0 yX0_wouldWear wsX0_wouldWear) := goodIn_app (goodIn_of _ (by decide +kernel)) ggX5_even_X0_wouldWear
theorem dX5_even_0 : decode cX5_even 0 = .ok (.iload_n 1, 1) := by decide +kernel
theorem dX5_even_1 : decode cX5_even 1 = .ok (.iconst (-1), 1) := by decide +kernel
theorem dX5_even_2 : decode cX5_even 2 = .ok (.if_icmp .ge 5, 3) := by decide +kernel
theorem dX5_even_5 : decode cX5_even 5 = .ok (.iconst (-1), 1) := by decide +kernel
theorem dX5_even_6 : decode cX5_even 6 = .ok (.ireturn, 1) := by decide +kernel
theorem dX5_even_7 : decode cX5_even 7 = .ok (.aload_n 0, 1) := by decide +kernel
theorem dX5_even_8 : decode cX5_even 8 = .ok (.getfield 48, 3) := by decide +kernel
theorem dX5_even_11 : decode cX5_even 11 = .ok (.invokevirtual 187, 3) := by decide +kernel
theorem dX5_even_14 : decode cX5_even 14 = .ok (.iload_n 1, 1) := by decide +kernel
theorem dX5_even_15 : decode cX5_even 15 = .ok (.iconst (-1), 1) := by decide +kernel
theorem dX5_even_16 : decode cX5_even 16 = .ok (.if_icmp .ne 13, 3) := by decide +kernel
theorem dX5_even_19 : decode cX5_even 19 = .ok (.aload_n 0, 1) := by decide +kernel
theorem dX5_even_20 : decode cX5_even 20 = .ok (.getfield 48, 3) := by decide +kernel
theorem dX5_even_23 : decode cX5_even 23 = .ok (.getfield 190, 3) := by decide +kernel
theorem dX5_even_26 : decode cX5_even 26 = .ok (.goto 11, 3) := by decide +kernel
theorem dX5_even_29 : decode cX5_even 29 = .ok (.aload_n 0, 1) := by decide +kernel
theorem dX5_even_30 : decode cX5_even 30 = .ok (.getfield 48, 3) := by decide +kernel
theorem dX5_even_33 : decode cX5_even 33 = .ok (.iload_n 1, 1) := by decide +kernel
theorem dX5_even_34 : decode cX5_even 34 = .ok (.invokevirtual 193, 3) := by decide +kernel
theorem dX5_even_37 : decode cX5_even 37 = .ok (.ireturn, 1) := by decide +kernel
set_option maxRecDepth 20000 in
theorem ggX5_few_X0_findFew : GoodIn wsX5_few wsX0_findFew := goodIn_r _ [7, 8, 9, 10, 11, 6, 12, 13, 14, 15, 16, 17, 18, 19, 20, 21, 22, 23, 24, 25, 26, 27, 28, 29, 30, 31, 32, 33, 34, 35, 36, 37, 38, 39, 40, 41, 42, 43, 44, 45, 46, 47, 48, 49, 50, 51, 52, 53, 54, 55, 56, 57, 58, 59, 60, 61, 62, 63, 64, 65, 66, 67, 68, 69, 70, 71, 72, 73, 74, 75, 76, 77, 78, 79, 80, 81, 82, 83, 84, 85, 99, 100, 101, 102, 103, 104, 105, 106, 107, 108, 109, 110, 111, 112, 113, 114, 115, 116, 117] (by decide +kernel) (by decide +kernel)
set_option maxRecDepth 20000 in
theorem gX5_few_X0_findFew : GoodIn wsX5_few (wsV RX5 196 RX0 yX0_findFew wsX0_findFew) := goodIn_app (goodIn_of _ (by decide +kernel)) ggX5_few_X0_findFew
set_option maxRecDepth 20000 in
theorem ggX5_few_X0_wouldWear : GoodIn wsX5_few wsX0_wouldWear := goodIn_r _ [89, 63, 99, 100, 101, 102, 103, 104, 105, 106, 107] (by decide +kernel) (by decide +kernel)
set_option maxRecDepth 20000 in
theorem gX5_few_X0_wouldWear : GoodIn wsX5_few (wsV RX5 193 RX0 yX0_wouldWear wsX0_wouldWear) := goodIn_app (goodIn_of _ (by decide +kernel)) ggX5_few_X0_wouldWear
theorem dX5_few_0 : decode cX5_few 0 = .ok (.iload_n 1, 1) := by decide +kernel
theorem dX5_few_1 : decode cX5_few 1 = .ok (.bipush (-2), 2) := by decide +kernel
theorem dX5_few_3 : decode cX5_few 3 = .ok (.if_icmp .ge 5, 3) := by decide +kernel
theorem dX5_few_6 : decode cX5_few 6 = .ok (.iconst (-1), 1) := by decide +kernel
theorem dX5_few_7 : decode cX5_few 7 = .ok (.ireturn, 1) := by decide +kernel
theorem dX5_few_8 : decode cX5_few 8 = .ok (.aload_n 0, 1) := by decide +kernel
theorem dX5_few_9 : decode cX5_few 9 = .ok (.getfield 48, 3) := by decide +kernel
theorem dX5_few_12 : decode cX5_few 12 = .ok (.invokevirtual 196, 3) := by decide +kernel
theorem dX5_few_15 : decode cX5_few 15 = .ok (.iload_n 1, 1) := by decide +kernel
theorem dX5_few_16 : decode cX5_few 16 = .ok (.lookupswitch 50 #[(-2, 39), (-1, 28)], 28) := by decide +kernel
theorem dX5_few_44 : decode cX5_few 44 = .ok (.aload_n 0, 1) := by decide +kernel
theorem dX5_few_45 : decode cX5_few 45 = .ok (.getfield 48, 3) := by decide +kernel
theorem dX5_few_48 : decode cX5_few 48 = .ok (.getfield 190, 3) := by decide +kernel
theorem dX5_few_51 : decode cX5_few 51 = .ok (.bipush 16, 2) := by decide +kernel
theorem dX5_few_53 : decode cX5_few 53 = .ok (.idiv, 1) := by decide +kernel
theorem dX5_few_54 : decode cX5_few 54 = .ok (.ireturn, 1) := by decide +kernel
theorem dX5_few_55 : decode cX5_few 55 = .ok (.aload_n 0, 1) := by decide +kernel
theorem dX5_few_56 : decode cX5_few 56 = .ok (.getfield 48, 3) := by decide +kernel
theorem dX5_few_59 : decode cX5_few 59 = .ok (.getfield 190, 3) := by decide +kernel
theorem dX5_few_62 : decode cX5_few 62 = .ok (.bipush 16, 2) := by decide +kernel
theorem dX5_few_64 : decode cX5_few 64 = .ok (.irem, 1) := by decide +kernel
theorem dX5_few_65 : decode cX5_few 65 = .ok (.ireturn, 1) := by decide +kernel
theorem dX5_few_66 : decode cX5_few 66 = .ok (.aload_n 0, 1) := by decide +kernel
theorem dX5_few_67 : decode cX5_few 67 = .ok (.getfield 48, 3) := by decide +kernel
theorem dX5_few_70 : decode cX5_few 70 = .ok (.iload_n 1, 1) := by decide +kernel
theorem dX5_few_71 : decode cX5_few 71 = .ok (.invokevirtual 193, 3) := by decide +kernel
theorem dX5_few_74 : decode cX5_few 74 = .ok (.ireturn, 1) := by decide +kernel
set_option maxRecDepth 20000 in
theorem ggX5_error_X1_hasMan : GoodIn wsX5_error wsX1_hasMan := goodIn_r _ [7, 8, 90, 91, 92, 93, 94, 95, 96, 97, 98, 99] (by decide +kernel) (by decide +kernel)
set_option maxRecDepth 20000 in
theorem gX5_error_X1_hasMan : GoodIn wsX5_error (wsV RX5 70 RX1 yX1_hasMan wsX1_hasMan) := goodIn_app (goodIn_of _ (by decide +kernel)) ggX5_error_X1_hasMan
set_option maxRecDepth 20000 in
theorem ggX5_error_X0_prepare : GoodIn wsX5_error wsX0_prepare := goodIn_r _ [13, 14, 15, 16, 17, 18, 19, 20, 21, 6, 22, 23, 24, 25, 26, 27, 28, 29, 30, 31, 32, 33, 34, 35, 36, 37, 38, 39, 40, 41, 42, 43, 44, 45, 46, 47, 48, 49, 50, 100, 101, 102, 103, 104, 105, 106, 107, 108, 90, 91, 92, 93, 94, 95, 96, 97, 98, 99] (by decide +kernel) (by decide +kernel)
set_option maxRecDepth 20000 in
theorem gX5_error_X0_prepare : GoodIn wsX5_error (wsV RX5 217 RX0 yX0_prepare wsX0_prepare) := goodIn_app (goodIn_of _ (by decide +kernel)) ggX5_error_X0_prepare
set_option maxRecDepth 20000 in
theorem ggX5_error_X0_waysWithNobodyBent : GoodIn wsX5_error wsX0_waysWithNobodyBent := goodIn_r _ [54, 55, 14, 16, 15, 56, 57, 58, 12, 59, 60, 61, 62, 63, 17, 64, 100, 101, 102, 103, 104, 105, 106, 107, 108, 90, 91, 92, 93, 94, 95, 96, 97, 98, 99] (by decide +kernel) (by decide +kernel)
set_option maxRecDepth 20000 in
theorem gX5_error_X0_waysWithNobodyBent : GoodIn wsX5_error (wsV RX5 220 RX0 yX0_waysWithNobodyBent wsX0_waysWithNobodyBent) := goodIn_app (goodIn_of _ (by decide +kernel)) ggX5_error_X0_waysWithNobodyBent
set_option maxRecDepth 20000 in
theorem ggX5_error_X0_waysWithBent : GoodIn wsX5_error wsX0_waysWithBent := goodIn_r _ [68, 15, 14, 16, 60, 61, 62, 12, 63, 17, 64, 69, 38, 39, 40, 41, 42, 43, 70, 71, 72, 100, 101, 102, 103, 104, 105, 106, 107, 108, 90, 91, 92, 93, 94, 95, 96, 97, 98, 99] (by decide +kernel) (by decide +kernel)
set_option maxRecDepth 20000 in
theorem gX5_error_X0_waysWithBent : GoodIn wsX5_error (wsV RX5 223 RX0 yX0_waysWithBent wsX0_waysWithBent) := goodIn_app (goodIn_of _ (by decide +kernel)) ggX5_error_X0_waysWithBent
set_option maxRecDepth 20000 in
theorem ggX5_error_X0_ways : GoodIn wsX5_error wsX0_ways := goodIn_r _ [76, 14, 16, 15, 69, 38, 39, 40, 41, 42, 43, 70, 71, 12, 72, 100, 101, 102, 103, 104, 105, 106, 107, 108, 90, 91, 92, 93, 94, 95, 96, 97, 98, 99] (by decide +kernel) (by decide +kernel)
set_option maxRecDepth 20000 in
theorem gX5_error_X0_ways : GoodIn wsX5_error (wsV RX5 226 RX0 yX0_ways wsX0_ways) := goodIn_app (goodIn_of _ (by decide +kernel)) ggX5_error_X0_ways
set_option maxRecDepth 20000 in
theorem ggX5_error_X5_greatestCommonDivisor : GoodIn wsX5_error wsX5_greatestCommonDivisor := goodIn_r _ [80] (by decide +kernel) (by decide +kernel)
set_option maxRecDepth 20000 in
theorem gX5_error_X5_greatestCommonDivisor : GoodIn wsX5_error (va_wsS RX5 229 yX5_greatestCommonDivisor wsX5_greatestCommonDivisor) := goodIn_app (goodIn_of _ (by decide +kernel)) ggX5_error_X5_greatestCommonDivisor
theorem dX5_error_0 : decode cX5_error 0 = .ok (.iload_n 1, 1) := by decide +kernel
theorem dX5_error_1 : decode cX5_error 1 = .ok (.iconst (-1), 1) := by decide +kernel
theorem dX5_error_2 : decode cX5_error 2 = .ok (.if_icmp .eq 14, 3) := by decide +kernel
theorem dX5_error_5 : decode cX5_error 5 = .ok (.aload_n 0, 1) := by decide +kernel
theorem dX5_error_6 : decode cX5_error 6 = .ok (.getfield 10, 3) := by decide +kernel
theorem dX5_error_9 : decode cX5_error 9 = .ok (.iload_n 1, 1) := by decide +kernel
theorem dX5_error_10 : decode cX5_error 10 = .ok (.invokevirtual 70, 3) := by decide +kernel
theorem dX5_error_13 : decode cX5_error 13 = .ok (.ifCond .eq 12, 3) := by decide +kernel
theorem dX5_error_16 : decode cX5_error 16 = .ok (.iload_n 2, 1) := by decide +kernel
theorem dX5_error_17 : decode cX5_error 17 = .ok (.ifCond .lt 8, 3) := by decide +kernel
theorem dX5_error_20 : decode cX5_error 20 = .ok (.iload_n 2, 1) := by decide +kernel
theorem dX5_error_21 : decode cX5_error 21 = .ok (.iconst 1, 1) := by decide +kernel
theorem dX5_error_22 : decode cX5_error 22 = .ok (.if_icmp .le 5, 3) := by decide +kernel
theorem dX5_error_25 : decode cX5_error 25 = .ok (.iconst (-1), 1) := by decide +kernel
theorem dX5_error_26 : decode cX5_error 26 = .ok (.ireturn, 1) := by decide +kernel
theorem dX5_error_27 : decode cX5_error 27 = .ok (.aload_n 0, 1) := by decide +kernel
theorem dX5_error_28 : decode cX5_error 28 = .ok (.getfield 48, 3) := by decide +kernel
theorem dX5_error_31 : decode cX5_error 31 = .ok (.invokevirtual 217, 3) := by decide +kernel
theorem dX5_error_34 : decode cX5_error 34 = .ok (.iload_n 1, 1) := by decide +kernel
theorem dX5_error_35 : decode cX5_error 35 = .ok (.iconst (-1), 1) := by decide +kernel
theorem dX5_error_36 : decode cX5_error 36 = .ok (.if_icmp .ne 13, 3) := by decide +kernel
theorem dX5_error_39 : decode cX5_error 39 = .ok (.aload_n 0, 1) := by decide +kernel
theorem dX5_error_40 : decode cX5_error 40 = .ok (.getfield 48, 3) := by decide +kernel
theorem dX5_error_43 : decode cX5_error 43 = .ok (.invokevirtual 220, 3) := by decide +kernel
theorem dX5_error_46 : decode cX5_error 46 = .ok (.goto 11, 3) := by decide +kernel
theorem dX5_error_49 : decode cX5_error 49 = .ok (.aload_n 0, 1) := by decide +kernel
theorem dX5_error_50 : decode cX5_error 50 = .ok (.getfield 48, 3) := by decide +kernel
theorem dX5_error_53 : decode cX5_error 53 = .ok (.iload_n 1, 1) := by decide +kernel
theorem dX5_error_54 : decode cX5_error 54 = .ok (.invokevirtual 223, 3) := by decide +kernel
theorem dX5_error_57 : decode cX5_error 57 = .ok (.istore_n 3, 1) := by decide +kernel
theorem dX5_error_58 : decode cX5_error 58 = .ok (.aload_n 0, 1) := by decide +kernel
theorem dX5_error_59 : decode cX5_error 59 = .ok (.getfield 48, 3) := by decide +kernel
theorem dX5_error_62 : decode cX5_error 62 = .ok (.invokevirtual 226, 3) := by decide +kernel
theorem dX5_error_65 : decode cX5_error 65 = .ok (.istore 4, 2) := by decide +kernel
theorem dX5_error_67 : decode cX5_error 67 = .ok (.iload 4, 2) := by decide +kernel
theorem dX5_error_69 : decode cX5_error 69 = .ok (.iload_n 3, 1) := by decide +kernel
theorem dX5_error_70 : decode cX5_error 70 = .ok (.invokestatic 229, 3) := by decide +kernel
theorem dX5_error_73 : decode cX5_error 73 = .ok (.istore 5, 2) := by decide +kernel
theorem dX5_error_75 : decode cX5_error 75 = .ok (.iload 5, 2) := by decide +kernel
theorem dX5_error_77 : decode cX5_error 77 = .ok (.ifCond .ne 5, 3) := by decide +kernel
theorem dX5_error_80 : decode cX5_error 80 = .ok (.iconst (-1), 1) := by decide +kernel
theorem dX5_error_81 : decode cX5_error 81 = .ok (.ireturn, 1) := by decide +kernel
theorem dX5_error_82 : decode cX5_error 82 = .ok (.iload_n 2, 1) := by decide +kernel
theorem dX5_error_83 : decode cX5_error 83 = .ok (.ifCond .ne 10, 3) := by decide +kernel
theorem dX5_error_86 : decode cX5_error 86 = .ok (.iload_n 3, 1) := by decide +kernel
theorem dX5_error_87 : decode cX5_error 87 = .ok (.iload 5, 2) := by decide +kernel
theorem dX5_error_89 : decode cX5_error 89 = .ok (.idiv, 1) := by decide +kernel
theorem dX5_error_90 : decode cX5_error 90 = .ok (.goto 8, 3) := by decide +kernel
theorem dX5_error_93 : decode cX5_error 93 = .ok (.iload 4, 2) := by decide +kernel
theorem dX5_error_95 : decode cX5_error 95 = .ok (.iload 5, 2) := by decide +kernel
theorem dX5_error_97 : decode cX5_error 97 = .ok (.idiv, 1) := by decide +kernel
theorem dX5_error_98 : decode cX5_error 98 = .ok (.ireturn, 1) := by decide +kernel
set_option maxRecDepth 20000 in
theorem ggX5_felt_X1_hasMan : GoodIn wsX5_felt wsX1_hasMan := goodIn_r _ [12, 13, 110, 111, 112, 113, 114, 115, 116, 117, 118, 119] (by decide +kernel) (by decide +kernel)
set_option maxRecDepth 20000 in
theorem gX5_felt_X1_hasMan : GoodIn wsX5_felt (wsV RX5 70 RX1 yX1_hasMan wsX1_hasMan) := goodIn_app (goodIn_of _ (by decide +kernel)) ggX5_felt_X1_hasMan
set_option maxRecDepth 20000 in
theorem ggX5_felt_X1_hasMedal : GoodIn wsX5_felt wsX1_hasMedal := goodIn_r _ [17, 18, 110, 111, 112, 113, 114, 115, 116, 117, 118, 119] (by decide +kernel) (by decide +kernel)
set_option maxRecDepth 20000 in
theorem gX5_felt_X1_hasMedal : GoodIn wsX5_felt (wsV RX5 104 RX1 yX1_hasMedal wsX1_hasMedal) := goodIn_app (goodIn_of _ (by decide +kernel)) ggX5_felt_X1_hasMedal
set_option maxRecDepth 20000 in
theorem ggX5_felt_X5_isSheet : GoodIn wsX5_felt wsX5_isSheet := goodIn_r _ [22] (by decide +kernel) (by decide +kernel)
set_option maxRecDepth 20000 in
theorem gX5_felt_X5_isSheet : GoodIn wsX5_felt (va_wsS RX5 235 yX5_isSheet wsX5_isSheet) := goodIn_app (goodIn_of _ (by decide +kernel)) ggX5_felt_X5_isSheet
set_option maxRecDepth 20000 in
theorem ggX5_felt_X5_isLane : GoodIn wsX5_felt wsX5_isLane := goodIn_r _ [25] (by decide +kernel) (by decide +kernel)
set_option maxRecDepth 20000 in
theorem gX5_felt_X5_isLane : GoodIn wsX5_felt (va_wsS RX5 238 yX5_isLane wsX5_isLane) := goodIn_app (goodIn_of _ (by decide +kernel)) ggX5_felt_X5_isLane
set_option maxRecDepth 20000 in
theorem ggX5_felt_X3_refuses : GoodIn wsX5_felt wsX3_refuses := goodIn_r _ [30, 31, 32, 33, 34, 35, 29, 36, 37, 120, 121, 122, 123] (by decide +kernel) (by decide +kernel)
set_option maxRecDepth 20000 in
theorem gX5_felt_X3_refuses : GoodIn wsX5_felt (wsV RX5 241 RX3 yX3_refuses wsX3_refuses) := goodIn_app (goodIn_of _ (by decide +kernel)) ggX5_felt_X3_refuses
set_option maxRecDepth 20000 in
theorem ggX5_felt_X1_take : GoodIn wsX5_felt wsX1_take := goodIn_r _ [41, 13, 42, 43, 44, 45, 46, 47, 18, 48, 49, 50, 51, 52, 53, 110, 111, 112, 113, 114, 115, 116, 117, 118, 119] (by decide +kernel) (by decide +kernel)
set_option maxRecDepth 20000 in
theorem gX5_felt_X1_take : GoodIn wsX5_felt (wsV RX5 142 RX1 yX1_take wsX1_take) := goodIn_app (goodIn_of _ (by decide +kernel)) ggX5_felt_X1_take
set_option maxRecDepth 20000 in
theorem ggX5_felt_X5_trialIsTold : GoodIn wsX5_felt wsX5_trialIsTold := goodIn_r _ [57, 4, 58, 59, 60, 61, 62, 63, 11, 64, 42, 65, 66, 67, 68, 69, 70, 71, 72, 51, 73, 74, 75, 76, 18, 77, 78, 79, 80, 81, 82, 83, 84, 85, 86, 87, 88, 89, 90, 91, 49, 48, 50, 92, 21, 93, 94, 95, 96, 97, 98, 99, 100, 101, 102, 103, 104, 105, 106, 107, 108, 109, 110, 111, 112, 113, 114, 115, 116, 117, 118, 119, 120, 121, 122, 123] (by decide +kernel) (by decide +kernel)
set_option maxRecDepth 20000 in
theorem gX5_felt_X5_trialIsTold : GoodIn wsX5_felt (wsV RX5 244 RX5 yX5_trialIsTold wsX5_trialIsTold) := goodIn_app (goodIn_of _ (by decide +kernel)) ggX5_felt_X5_trialIsTold
theorem dX5_felt_0 : decode cX5_felt 0 = .ok (.aload_n 0, 1) := by decide +kernel
theorem dX5_felt_1 : decode cX5_felt 1 = .ok (.getfield 10, 3) := by decide +kernel
theorem dX5_felt_4 : decode cX5_felt 4 = .ok (.iload_n 1, 1) := by decide +kernel
theorem dX5_felt_5 : decode cX5_felt 5 = .ok (.invokevirtual 70, 3) := by decide +kernel
theorem dX5_felt_8 : decode cX5_felt 8 = .ok (.ifCond .eq 53, 3) := by decide +kernel
theorem dX5_felt_11 : decode cX5_felt 11 = .ok (.aload_n 0, 1) := by decide +kernel
theorem dX5_felt_12 : decode cX5_felt 12 = .ok (.getfield 10, 3) := by decide +kernel
theorem dX5_felt_15 : decode cX5_felt 15 = .ok (.iload_n 2, 1) := by decide +kernel
theorem dX5_felt_16 : decode cX5_felt 16 = .ok (.invokevirtual 104, 3) := by decide +kernel
theorem dX5_felt_19 : decode cX5_felt 19 = .ok (.ifCond .eq 42, 3) := by decide +kernel
theorem dX5_felt_22 : decode cX5_felt 22 = .ok (.iload_n 3, 1) := by decide +kernel
theorem dX5_felt_23 : decode cX5_felt 23 = .ok (.invokestatic 235, 3) := by decide +kernel
theorem dX5_felt_26 : decode cX5_felt 26 = .ok (.ifCond .eq 35, 3) := by decide +kernel
theorem dX5_felt_29 : decode cX5_felt 29 = .ok (.iload 4, 2) := by decide +kernel
theorem dX5_felt_31 : decode cX5_felt 31 = .ok (.invokestatic 238, 3) := by decide +kernel
theorem dX5_felt_34 : decode cX5_felt 34 = .ok (.ifCond .eq 27, 3) := by decide +kernel
theorem dX5_felt_37 : decode cX5_felt 37 = .ok (.iload 6, 2) := by decide +kernel
theorem dX5_felt_39 : decode cX5_felt 39 = .ok (.iconst 1, 1) := by decide +kernel
theorem dX5_felt_40 : decode cX5_felt 40 = .ok (.if_icmp .lt 21, 3) := by decide +kernel
theorem dX5_felt_43 : decode cX5_felt 43 = .ok (.iload 6, 2) := by decide +kernel
theorem dX5_felt_45 : decode cX5_felt 45 = .ok (.bipush 8, 2) := by decide +kernel
theorem dX5_felt_47 : decode cX5_felt 47 = .ok (.if_icmp .gt 14, 3) := by decide +kernel
theorem dX5_felt_50 : decode cX5_felt 50 = .ok (.iload 7, 2) := by decide +kernel
theorem dX5_felt_52 : decode cX5_felt 52 = .ok (.ifCond .lt 9, 3) := by decide +kernel
theorem dX5_felt_55 : decode cX5_felt 55 = .ok (.iload 7, 2) := by decide +kernel
theorem dX5_felt_57 : decode cX5_felt 57 = .ok (.iconst 2, 1) := by decide +kernel
theorem dX5_felt_58 : decode cX5_felt 58 = .ok (.if_icmp .le 5, 3) := by decide +kernel
theorem dX5_felt_61 : decode cX5_felt 61 = .ok (.iconst (-1), 1) := by decide +kernel
theorem dX5_felt_62 : decode cX5_felt 62 = .ok (.ireturn, 1) := by decide +kernel
theorem dX5_felt_63 : decode cX5_felt 63 = .ok (.aload_n 0, 1) := by decide +kernel
theorem dX5_felt_64 : decode cX5_felt 64 = .ok (.getfield 54, 3) := by decide +kernel
theorem dX5_felt_67 : decode cX5_felt 67 = .ok (.iload_n 3, 1) := by decide +kernel
theorem dX5_felt_68 : decode cX5_felt 68 = .ok (.aaload, 1) := by decide +kernel
theorem dX5_felt_69 : decode cX5_felt 69 = .ok (.iload 4, 2) := by decide +kernel
theorem dX5_felt_71 : decode cX5_felt 71 = .ok (.iload 5, 2) := by decide +kernel
theorem dX5_felt_73 : decode cX5_felt 73 = .ok (.iload 6, 2) := by decide +kernel
theorem dX5_felt_75 : decode cX5_felt 75 = .ok (.invokevirtual 241, 3) := by decide +kernel
theorem dX5_felt_78 : decode cX5_felt 78 = .ok (.istore 8, 2) := by decide +kernel
theorem dX5_felt_80 : decode cX5_felt 80 = .ok (.iload 8, 2) := by decide +kernel
theorem dX5_felt_82 : decode cX5_felt 82 = .ok (.ifCond .eq 6, 3) := by decide +kernel
theorem dX5_felt_85 : decode cX5_felt 85 = .ok (.iload 8, 2) := by decide +kernel
theorem dX5_felt_87 : decode cX5_felt 87 = .ok (.ireturn, 1) := by decide +kernel
theorem dX5_felt_88 : decode cX5_felt 88 = .ok (.iload 7, 2) := by decide +kernel
theorem dX5_felt_90 : decode cX5_felt 90 = .ok (.iconst 1, 1) := by decide +kernel
theorem dX5_felt_91 : decode cX5_felt 91 = .ok (.if_icmp .ne 7, 3) := by decide +kernel
theorem dX5_felt_94 : decode cX5_felt 94 = .ok (.iconst 1, 1) := by decide +kernel
theorem dX5_felt_95 : decode cX5_felt 95 = .ok (.goto 4, 3) := by decide +kernel
theorem dX5_felt_98 : decode cX5_felt 98 = .ok (.iconst 0, 1) := by decide +kernel
theorem dX5_felt_99 : decode cX5_felt 99 = .ok (.istore 9, 2) := by decide +kernel
theorem dX5_felt_101 : decode cX5_felt 101 = .ok (.iload 7, 2) := by decide +kernel
theorem dX5_felt_103 : decode cX5_felt 103 = .ok (.ifCond .ne 7, 3) := by decide +kernel
theorem dX5_felt_106 : decode cX5_felt 106 = .ok (.iconst 4, 1) := by decide +kernel
theorem dX5_felt_107 : decode cX5_felt 107 = .ok (.goto 23, 3) := by decide +kernel
theorem dX5_felt_110 : decode cX5_felt 110 = .ok (.iload 7, 2) := by decide +kernel
theorem dX5_felt_112 : decode cX5_felt 112 = .ok (.iconst 1, 1) := by decide +kernel
theorem dX5_felt_113 : decode cX5_felt 113 = .ok (.if_icmp .ne 8, 3) := by decide +kernel
theorem dX5_felt_116 : decode cX5_felt 116 = .ok (.bipush 20, 2) := by decide +kernel
theorem dX5_felt_118 : decode cX5_felt 118 = .ok (.goto 12, 3) := by decide +kernel
theorem dX5_felt_121 : decode cX5_felt 121 = .ok (.aload_n 0, 1) := by decide +kernel
theorem dX5_felt_122 : decode cX5_felt 122 = .ok (.getfield 10, 3) := by decide +kernel
theorem dX5_felt_125 : decode cX5_felt 125 = .ok (.getfield 59, 3) := by decide +kernel
theorem dX5_felt_128 : decode cX5_felt 128 = .ok (.iconst 1, 1) := by decide +kernel
theorem dX5_felt_129 : decode cX5_felt 129 = .ok (.isub, 1) := by decide +kernel
theorem dX5_felt_130 : decode cX5_felt 130 = .ok (.istore 10, 2) := by decide +kernel
theorem dX5_felt_132 : decode cX5_felt 132 = .ok (.iload 7, 2) := by decide +kernel
theorem dX5_felt_134 : decode cX5_felt 134 = .ok (.ifCond .ne 13, 3) := by decide +kernel
theorem dX5_felt_137 : decode cX5_felt 137 = .ok (.aload_n 0, 1) := by decide +kernel
theorem dX5_felt_138 : decode cX5_felt 138 = .ok (.getfield 33, 3) := by decide +kernel
theorem dX5_felt_141 : decode cX5_felt 141 = .ok (.getfield 107, 3) := by decide +kernel
theorem dX5_felt_144 : decode cX5_felt 144 = .ok (.goto 26, 3) := by decide +kernel
theorem dX5_felt_147 : decode cX5_felt 147 = .ok (.iload 7, 2) := by decide +kernel
theorem dX5_felt_149 : decode cX5_felt 149 = .ok (.iconst 1, 1) := by decide +kernel
theorem dX5_felt_150 : decode cX5_felt 150 = .ok (.if_icmp .ne 13, 3) := by decide +kernel
theorem dX5_felt_153 : decode cX5_felt 153 = .ok (.aload_n 0, 1) := by decide +kernel
theorem dX5_felt_154 : decode cX5_felt 154 = .ok (.getfield 33, 3) := by decide +kernel
theorem dX5_felt_157 : decode cX5_felt 157 = .ok (.getfield 110, 3) := by decide +kernel
theorem dX5_felt_160 : decode cX5_felt 160 = .ok (.goto 10, 3) := by decide +kernel
theorem dX5_felt_163 : decode cX5_felt 163 = .ok (.aload_n 0, 1) := by decide +kernel
theorem dX5_felt_164 : decode cX5_felt 164 = .ok (.getfield 33, 3) := by decide +kernel
theorem dX5_felt_167 : decode cX5_felt 167 = .ok (.getfield 113, 3) := by decide +kernel
theorem dX5_felt_170 : decode cX5_felt 170 = .ok (.astore 11, 2) := by decide +kernel
theorem dX5_felt_172 : decode cX5_felt 172 = .ok (.aload_n 0, 1) := by decide +kernel
theorem dX5_felt_173 : decode cX5_felt 173 = .ok (.getfield 33, 3) := by decide +kernel
theorem dX5_felt_176 : decode cX5_felt 176 = .ok (.aload_n 0, 1) := by decide +kernel
theorem dX5_felt_177 : decode cX5_felt 177 = .ok (.getfield 10, 3) := by decide +kernel
theorem dX5_felt_180 : decode cX5_felt 180 = .ok (.invokevirtual 142, 3) := by decide +kernel
theorem dX5_felt_183 : decode cX5_felt 183 = .ok (.iconst 0, 1) := by decide +kernel
theorem dX5_felt_184 : decode cX5_felt 184 = .ok (.istore 12, 2) := by decide +kernel
theorem dX5_felt_186 : decode cX5_felt 186 = .ok (.iload 9, 2) := by decide +kernel
theorem dX5_felt_188 : decode cX5_felt 188 = .ok (.istore 13, 2) := by decide +kernel
theorem dX5_felt_190 : decode cX5_felt 190 = .ok (.iload 13, 2) := by decide +kernel
theorem dX5_felt_192 : decode cX5_felt 192 = .ok (.iload 10, 2) := by decide +kernel
theorem dX5_felt_194 : decode cX5_felt 194 = .ok (.if_icmp .gt 42, 3) := by decide +kernel
theorem dX5_felt_197 : decode cX5_felt 197 = .ok (.aload 11, 2) := by decide +kernel
theorem dX5_felt_199 : decode cX5_felt 199 = .ok (.iload_n 2, 1) := by decide +kernel
theorem dX5_felt_200 : decode cX5_felt 200 = .ok (.iload 13, 2) := by decide +kernel
theorem dX5_felt_202 : decode cX5_felt 202 = .ok (.iastore, 1) := by decide +kernel
theorem dX5_felt_203 : decode cX5_felt 203 = .ok (.aload_n 0, 1) := by decide +kernel
theorem dX5_felt_204 : decode cX5_felt 204 = .ok (.iload_n 1, 1) := by decide +kernel
theorem dX5_felt_205 : decode cX5_felt 205 = .ok (.aload_n 0, 1) := by decide +kernel
theorem dX5_felt_206 : decode cX5_felt 206 = .ok (.getfield 54, 3) := by decide +kernel
theorem dX5_felt_209 : decode cX5_felt 209 = .ok (.iload_n 3, 1) := by decide +kernel
theorem dX5_felt_210 : decode cX5_felt 210 = .ok (.aaload, 1) := by decide +kernel
theorem dX5_felt_211 : decode cX5_felt 211 = .ok (.iload 5, 2) := by decide +kernel
theorem dX5_felt_213 : decode cX5_felt 213 = .ok (.iload 6, 2) := by decide +kernel
theorem dX5_felt_215 : decode cX5_felt 215 = .ok (.invokevirtual 244, 3) := by decide +kernel
theorem dX5_felt_218 : decode cX5_felt 218 = .ok (.ifCond .eq 12, 3) := by decide +kernel
theorem dX5_felt_221 : decode cX5_felt 221 = .ok (.iload 12, 2) := by decide +kernel
theorem dX5_felt_223 : decode cX5_felt 223 = .ok (.iconst 1, 1) := by decide +kernel
theorem dX5_felt_224 : decode cX5_felt 224 = .ok (.iload 13, 2) := by decide +kernel
theorem dX5_felt_226 : decode cX5_felt 226 = .ok (.ishl, 1) := by decide +kernel
theorem dX5_felt_227 : decode cX5_felt 227 = .ok (.ior, 1) := by decide +kernel
theorem dX5_felt_228 : decode cX5_felt 228 = .ok (.istore 12, 2) := by decide +kernel
theorem dX5_felt_230 : decode cX5_felt 230 = .ok (.iinc 13 1, 3) := by decide +kernel
theorem dX5_felt_233 : decode cX5_felt 233 = .ok (.goto (-43), 3) := by decide +kernel
theorem dX5_felt_236 : decode cX5_felt 236 = .ok (.iload 12, 2) := by decide +kernel
theorem dX5_felt_238 : decode cX5_felt 238 = .ok (.ireturn, 1) := by decide +kernel
set_option maxRecDepth 20000 in
theorem ggX5_drop_X5_isSheet : GoodIn wsX5_drop wsX5_isSheet := goodIn_r _ [7] (by decide +kernel) (by decide +kernel)
set_option maxRecDepth 20000 in
theorem gX5_drop_X5_isSheet : GoodIn wsX5_drop (va_wsS RX5 235 yX5_isSheet wsX5_isSheet) := goodIn_app (goodIn_of _ (by decide +kernel)) ggX5_drop_X5_isSheet
theorem dX5_drop_0 : decode cX5_drop 0 = .ok (.iload_n 1, 1) := by decide +kernel
theorem dX5_drop_1 : decode cX5_drop 1 = .ok (.invokestatic 235, 3) := by decide +kernel
theorem dX5_drop_4 : decode cX5_drop 4 = .ok (.ifCond .ne 5, 3) := by decide +kernel
theorem dX5_drop_7 : decode cX5_drop 7 = .ok (.iconst (-1), 1) := by decide +kernel
theorem dX5_drop_8 : decode cX5_drop 8 = .ok (.ireturn, 1) := by decide +kernel
theorem dX5_drop_9 : decode cX5_drop 9 = .ok (.aload_n 0, 1) := by decide +kernel
theorem dX5_drop_10 : decode cX5_drop 10 = .ok (.getfield 54, 3) := by decide +kernel
theorem dX5_drop_13 : decode cX5_drop 13 = .ok (.iload_n 1, 1) := by decide +kernel
theorem dX5_drop_14 : decode cX5_drop 14 = .ok (.aaload, 1) := by decide +kernel
theorem dX5_drop_15 : decode cX5_drop 15 = .ok (.astore_n 2, 1) := by decide +kernel
theorem dX5_drop_16 : decode cX5_drop 16 = .ok (.aload_n 2, 1) := by decide +kernel
theorem dX5_drop_17 : decode cX5_drop 17 = .ok (.getfield 256, 3) := by decide +kernel
theorem dX5_drop_20 : decode cX5_drop 20 = .ok (.ifCond .ne 6, 3) := by decide +kernel
theorem dX5_drop_23 : decode cX5_drop 23 = .ok (.bipush (-11), 2) := by decide +kernel
theorem dX5_drop_25 : decode cX5_drop 25 = .ok (.ireturn, 1) := by decide +kernel
theorem dX5_drop_26 : decode cX5_drop 26 = .ok (.aload_n 2, 1) := by decide +kernel
theorem dX5_drop_27 : decode cX5_drop 27 = .ok (.iconst 0, 1) := by decide +kernel
theorem dX5_drop_28 : decode cX5_drop 28 = .ok (.putfield 256, 3) := by decide +kernel
theorem dX5_drop_31 : decode cX5_drop 31 = .ok (.aload_n 2, 1) := by decide +kernel
theorem dX5_drop_32 : decode cX5_drop 32 = .ok (.getfield 259, 3) := by decide +kernel
theorem dX5_drop_35 : decode cX5_drop 35 = .ok (.ireturn, 1) := by decide +kernel
set_option maxRecDepth 20000 in
theorem ggX5_copy_X5_isSheet : GoodIn wsX5_copy wsX5_isSheet := goodIn_r _ [12] (by decide +kernel) (by decide +kernel)
set_option maxRecDepth 20000 in
theorem gX5_copy_X5_isSheet : GoodIn wsX5_copy (va_wsS RX5 235 yX5_isSheet wsX5_isSheet) := goodIn_app (goodIn_of _ (by decide +kernel)) ggX5_copy_X5_isSheet
set_option maxRecDepth 20000 in
theorem ggX5_copy_X3_reaches : GoodIn wsX5_copy wsX3_reaches := goodIn_r _ [17, 18, 28, 29, 30, 31] (by decide +kernel) (by decide +kernel)
set_option maxRecDepth 20000 in
theorem gX5_copy_X3_reaches : GoodIn wsX5_copy (wsV RX5 263 RX3 yX3_reaches wsX3_reaches) := goodIn_app (goodIn_of _ (by decide +kernel)) ggX5_copy_X3_reaches
theorem dX5_copy_0 : decode cX5_copy 0 = .ok (.iload_n 1, 1) := by decide +kernel
theorem dX5_copy_1 : decode cX5_copy 1 = .ok (.invokestatic 235, 3) := by decide +kernel
theorem dX5_copy_4 : decode cX5_copy 4 = .ok (.ifCond .eq 10, 3) := by decide +kernel
theorem dX5_copy_7 : decode cX5_copy 7 = .ok (.iload_n 3, 1) := by decide +kernel
theorem dX5_copy_8 : decode cX5_copy 8 = .ok (.invokestatic 235, 3) := by decide +kernel
theorem dX5_copy_11 : decode cX5_copy 11 = .ok (.ifCond .ne 5, 3) := by decide +kernel
theorem dX5_copy_14 : decode cX5_copy 14 = .ok (.iconst (-1), 1) := by decide +kernel
theorem dX5_copy_15 : decode cX5_copy 15 = .ok (.ireturn, 1) := by decide +kernel
theorem dX5_copy_16 : decode cX5_copy 16 = .ok (.aload_n 0, 1) := by decide +kernel
theorem dX5_copy_17 : decode cX5_copy 17 = .ok (.getfield 54, 3) := by decide +kernel
theorem dX5_copy_20 : decode cX5_copy 20 = .ok (.iload_n 1, 1) := by decide +kernel
theorem dX5_copy_21 : decode cX5_copy 21 = .ok (.aaload, 1) := by decide +kernel
theorem dX5_copy_22 : decode cX5_copy 22 = .ok (.astore 6, 2) := by decide +kernel
theorem dX5_copy_24 : decode cX5_copy 24 = .ok (.aload_n 0, 1) := by decide +kernel
theorem dX5_copy_25 : decode cX5_copy 25 = .ok (.getfield 54, 3) := by decide +kernel
theorem dX5_copy_28 : decode cX5_copy 28 = .ok (.iload_n 3, 1) := by decide +kernel
theorem dX5_copy_29 : decode cX5_copy 29 = .ok (.aaload, 1) := by decide +kernel
theorem dX5_copy_30 : decode cX5_copy 30 = .ok (.astore 7, 2) := by decide +kernel
theorem dX5_copy_32 : decode cX5_copy 32 = .ok (.aload 6, 2) := by decide +kernel
theorem dX5_copy_34 : decode cX5_copy 34 = .ok (.getfield 256, 3) := by decide +kernel
theorem dX5_copy_37 : decode cX5_copy 37 = .ok (.ifCond .eq 11, 3) := by decide +kernel
theorem dX5_copy_40 : decode cX5_copy 40 = .ok (.aload 7, 2) := by decide +kernel
theorem dX5_copy_42 : decode cX5_copy 42 = .ok (.getfield 256, 3) := by decide +kernel
theorem dX5_copy_45 : decode cX5_copy 45 = .ok (.ifCond .ne 6, 3) := by decide +kernel
theorem dX5_copy_48 : decode cX5_copy 48 = .ok (.bipush (-11), 2) := by decide +kernel
theorem dX5_copy_50 : decode cX5_copy 50 = .ok (.ireturn, 1) := by decide +kernel
theorem dX5_copy_51 : decode cX5_copy 51 = .ok (.aload 6, 2) := by decide +kernel
theorem dX5_copy_53 : decode cX5_copy 53 = .ok (.getfield 260, 3) := by decide +kernel
theorem dX5_copy_56 : decode cX5_copy 56 = .ok (.aload 7, 2) := by decide +kernel
theorem dX5_copy_58 : decode cX5_copy 58 = .ok (.getfield 260, 3) := by decide +kernel
theorem dX5_copy_61 : decode cX5_copy 61 = .ok (.if_icmp .eq 6, 3) := by decide +kernel
theorem dX5_copy_64 : decode cX5_copy 64 = .ok (.bipush (-12), 2) := by decide +kernel
theorem dX5_copy_66 : decode cX5_copy 66 = .ok (.ireturn, 1) := by decide +kernel
theorem dX5_copy_67 : decode cX5_copy 67 = .ok (.aload 6, 2) := by decide +kernel
theorem dX5_copy_69 : decode cX5_copy 69 = .ok (.iload_n 2, 1) := by decide +kernel
theorem dX5_copy_70 : decode cX5_copy 70 = .ok (.iload 5, 2) := by decide +kernel
theorem dX5_copy_72 : decode cX5_copy 72 = .ok (.invokevirtual 263, 3) := by decide +kernel
theorem dX5_copy_75 : decode cX5_copy 75 = .ok (.ifCond .eq 15, 3) := by decide +kernel
theorem dX5_copy_78 : decode cX5_copy 78 = .ok (.aload 7, 2) := by decide +kernel
theorem dX5_copy_80 : decode cX5_copy 80 = .ok (.iload 4, 2) := by decide +kernel
theorem dX5_copy_82 : decode cX5_copy 82 = .ok (.iload 5, 2) := by decide +kernel
theorem dX5_copy_84 : decode cX5_copy 84 = .ok (.invokevirtual 263, 3) := by decide +kernel
theorem dX5_copy_87 : decode cX5_copy 87 = .ok (.ifCond .ne 6, 3) := by decide +kernel
theorem dX5_copy_90 : decode cX5_copy 90 = .ok (.bipush (-13), 2) := by decide +kernel
theorem dX5_copy_92 : decode cX5_copy 92 = .ok (.ireturn, 1) := by decide +kernel
theorem dX5_copy_93 : decode cX5_copy 93 = .ok (.aload 6, 2) := by decide +kernel
theorem dX5_copy_95 : decode cX5_copy 95 = .ok (.getfield 266, 3) := by decide +kernel
theorem dX5_copy_98 : decode cX5_copy 98 = .ok (.iload_n 2, 1) := by decide +kernel
theorem dX5_copy_99 : decode cX5_copy 99 = .ok (.aload 7, 2) := by decide +kernel
theorem dX5_copy_101 : decode cX5_copy 101 = .ok (.getfield 266, 3) := by decide +kernel
theorem dX5_copy_104 : decode cX5_copy 104 = .ok (.iload 4, 2) := by decide +kernel
theorem dX5_copy_106 : decode cX5_copy 106 = .ok (.iload 5, 2) := by decide +kernel
theorem dX5_copy_108 : decode cX5_copy 108 = .ok (.invokestatic 270, 3) := by decide +kernel
theorem dX5_copy_111 : decode cX5_copy 111 = .ok (.iload 5, 2) := by decide +kernel
theorem dX5_copy_113 : decode cX5_copy 113 = .ok (.ireturn, 1) := by decide +kernel
set_option maxRecDepth 20000 in
theorem ggX5_passDays_X2_keep : GoodIn wsX5_passDays wsX2_keep := goodIn_r _ [8, 9, 10, 11, 12, 13, 14, 15, 16, 17, 18, 19, 20, 21, 22, 23, 24, 113, 114, 115, 103, 104, 105, 106, 107, 108, 109, 110, 111, 112] (by decide +kernel) (by decide +kernel)
set_option maxRecDepth 20000 in
theorem gX5_passDays_X2_keep : GoodIn wsX5_passDays (wsV RX5 162 RX2 yX2_keep wsX2_keep) := goodIn_app (goodIn_of _ (by decide +kernel)) ggX5_passDays_X2_keep
set_option maxRecDepth 20000 in
theorem ggX5_passDays_X1_drawAndHang : GoodIn wsX5_passDays wsX1_drawAndHang := goodIn_r _ [29, 30, 31, 32, 33, 34, 35, 36, 37, 103, 104, 105, 106, 107, 108, 109, 110, 111, 112] (by decide +kernel) (by decide +kernel)
set_option maxRecDepth 20000 in
theorem gX5_passDays_X1_drawAndHang : GoodIn wsX5_passDays (wsV RX5 276 RX1 yX1_drawAndHang wsX1_drawAndHang) := goodIn_app (goodIn_of _ (by decide +kernel)) ggX5_passDays_X1_drawAndHang
set_option maxRecDepth 20000 in
theorem ggX5_passDays_X1_passDay : GoodIn wsX5_passDays wsX1_passDay := goodIn_r _ [41, 35, 42, 43, 44, 45, 46, 28, 47, 48, 49, 50, 51, 52, 53, 54, 55, 56, 36, 57, 58, 59, 60, 34, 61, 62, 63, 64, 65, 66, 67, 68, 69, 70, 71, 72, 73, 74, 75, 76, 77, 78, 79, 80, 81, 82, 83, 23, 84, 85, 22, 24, 103, 104, 105, 106, 107, 108, 109, 110, 111, 112] (by decide +kernel) (by decide +kernel)
set_option maxRecDepth 20000 in
theorem gX5_passDays_X1_passDay : GoodIn wsX5_passDays (wsV RX5 279 RX1 yX1_passDay wsX1_passDay) := goodIn_app (goodIn_of _ (by decide +kernel)) ggX5_passDays_X1_passDay
set_option maxRecDepth 20000 in
theorem ggX5_passDays_X1_allBent : GoodIn wsX5_passDays wsX1_allBent := goodIn_r _ [89, 35, 90, 91, 92, 28, 93, 43, 42, 49, 50, 51, 52, 53, 54, 55, 56, 36, 57, 58, 59, 60, 34, 61, 62, 63, 64, 65, 66, 67, 68, 69, 70, 71, 72, 73, 74, 75, 76, 77, 78, 103, 104, 105, 106, 107, 108, 109, 110, 111, 112] (by decide +kernel) (by decide +kernel)
set_option maxRecDepth 20000 in
theorem gX5_passDays_X1_allBent : GoodIn wsX5_passDays (wsV RX5 145 RX1 yX1_allBent wsX1_allBent) := goodIn_app (goodIn_of _ (by decide +kernel)) ggX5_passDays_X1_allBent
theorem dX5_passDays_0 : decode cX5_passDays 0 = .ok (.iload_n 1, 1) := by decide +kernel
theorem dX5_passDays_1 : decode cX5_passDays 1 = .ok (.iconst 1, 1) := by decide +kernel
theorem dX5_passDays_2 : decode cX5_passDays 2 = .ok (.if_icmp .lt 9, 3) := by decide +kernel
theorem dX5_passDays_5 : decode cX5_passDays 5 = .ok (.iload_n 1, 1) := by decide +kernel
theorem dX5_passDays_6 : decode cX5_passDays 6 = .ok (.bipush 40, 2) := by decide +kernel
theorem dX5_passDays_8 : decode cX5_passDays 8 = .ok (.if_icmp .le 5, 3) := by decide +kernel
theorem dX5_passDays_11 : decode cX5_passDays 11 = .ok (.iconst (-1), 1) := by decide +kernel
theorem dX5_passDays_12 : decode cX5_passDays 12 = .ok (.ireturn, 1) := by decide +kernel
theorem dX5_passDays_13 : decode cX5_passDays 13 = .ok (.aload_n 0, 1) := by decide +kernel
theorem dX5_passDays_14 : decode cX5_passDays 14 = .ok (.getfield 10, 3) := by decide +kernel
theorem dX5_passDays_17 : decode cX5_passDays 17 = .ok (.getfield 88, 3) := by decide +kernel
theorem dX5_passDays_20 : decode cX5_passDays 20 = .ok (.iload_n 1, 1) := by decide +kernel
theorem dX5_passDays_21 : decode cX5_passDays 21 = .ok (.iadd, 1) := by decide +kernel
theorem dX5_passDays_22 : decode cX5_passDays 22 = .ok (.sipush 9999, 3) := by decide +kernel
theorem dX5_passDays_25 : decode cX5_passDays 25 = .ok (.if_icmp .le 6, 3) := by decide +kernel
theorem dX5_passDays_28 : decode cX5_passDays 28 = .ok (.bipush (-3), 2) := by decide +kernel
theorem dX5_passDays_30 : decode cX5_passDays 30 = .ok (.ireturn, 1) := by decide +kernel
theorem dX5_passDays_31 : decode cX5_passDays 31 = .ok (.iconst 0, 1) := by decide +kernel
theorem dX5_passDays_32 : decode cX5_passDays 32 = .ok (.istore_n 3, 1) := by decide +kernel
theorem dX5_passDays_33 : decode cX5_passDays 33 = .ok (.iload_n 3, 1) := by decide +kernel
theorem dX5_passDays_34 : decode cX5_passDays 34 = .ok (.iload_n 1, 1) := by decide +kernel
theorem dX5_passDays_35 : decode cX5_passDays 35 = .ok (.if_icmp .ge 38, 3) := by decide +kernel
theorem dX5_passDays_38 : decode cX5_passDays 38 = .ok (.aload_n 0, 1) := by decide +kernel
theorem dX5_passDays_39 : decode cX5_passDays 39 = .ok (.getfield 19, 3) := by decide +kernel
theorem dX5_passDays_42 : decode cX5_passDays 42 = .ok (.aload_n 0, 1) := by decide +kernel
theorem dX5_passDays_43 : decode cX5_passDays 43 = .ok (.getfield 10, 3) := by decide +kernel
theorem dX5_passDays_46 : decode cX5_passDays 46 = .ok (.invokevirtual 162, 3) := by decide +kernel
theorem dX5_passDays_49 : decode cX5_passDays 49 = .ok (.iload_n 2, 1) := by decide +kernel
theorem dX5_passDays_50 : decode cX5_passDays 50 = .ok (.ifCond .eq 10, 3) := by decide +kernel
theorem dX5_passDays_53 : decode cX5_passDays 53 = .ok (.aload_n 0, 1) := by decide +kernel
theorem dX5_passDays_54 : decode cX5_passDays 54 = .ok (.getfield 10, 3) := by decide +kernel
theorem dX5_passDays_57 : decode cX5_passDays 57 = .ok (.invokevirtual 276, 3) := by decide +kernel
theorem dX5_passDays_60 : decode cX5_passDays 60 = .ok (.aload_n 0, 1) := by decide +kernel
theorem dX5_passDays_61 : decode cX5_passDays 61 = .ok (.getfield 10, 3) := by decide +kernel
theorem dX5_passDays_64 : decode cX5_passDays 64 = .ok (.invokevirtual 279, 3) := by decide +kernel
theorem dX5_passDays_67 : decode cX5_passDays 67 = .ok (.iinc 3 1, 3) := by decide +kernel
theorem dX5_passDays_70 : decode cX5_passDays 70 = .ok (.goto (-37), 3) := by decide +kernel
theorem dX5_passDays_73 : decode cX5_passDays 73 = .ok (.aload_n 0, 1) := by decide +kernel
theorem dX5_passDays_74 : decode cX5_passDays 74 = .ok (.getfield 10, 3) := by decide +kernel
theorem dX5_passDays_77 : decode cX5_passDays 77 = .ok (.invokevirtual 145, 3) := by decide +kernel
theorem dX5_passDays_80 : decode cX5_passDays 80 = .ok (.ireturn, 1) := by decide +kernel
theorem dX5_isSheet_0 : decode cX5_isSheet 0 = .ok (.iload_n 0, 1) := by decide +kernel
theorem dX5_isSheet_1 : decode cX5_isSheet 1 = .ok (.ifCond .lt 12, 3) := by decide +kernel
theorem dX5_isSheet_4 : decode cX5_isSheet 4 = .ok (.iload_n 0, 1) := by decide +kernel
theorem dX5_isSheet_5 : decode cX5_isSheet 5 = .ok (.iconst 4, 1) := by decide +kernel
theorem dX5_isSheet_6 : decode cX5_isSheet 6 = .ok (.if_icmp .ge 7, 3) := by decide +kernel
theorem dX5_isSheet_9 : decode cX5_isSheet 9 = .ok (.iconst 1, 1) := by decide +kernel
theorem dX5_isSheet_10 : decode cX5_isSheet 10 = .ok (.goto 4, 3) := by decide +kernel
theorem dX5_isSheet_13 : decode cX5_isSheet 13 = .ok (.iconst 0, 1) := by decide +kernel
theorem dX5_isSheet_14 : decode cX5_isSheet 14 = .ok (.ireturn, 1) := by decide +kernel
theorem dX5_isLane_0 : decode cX5_isLane 0 = .ok (.iload_n 0, 1) := by decide +kernel
theorem dX5_isLane_1 : decode cX5_isLane 1 = .ok (.ifCond .lt 12, 3) := by decide +kernel
theorem dX5_isLane_4 : decode cX5_isLane 4 = .ok (.iload_n 0, 1) := by decide +kernel
theorem dX5_isLane_5 : decode cX5_isLane 5 = .ok (.iconst 3, 1) := by decide +kernel
theorem dX5_isLane_6 : decode cX5_isLane 6 = .ok (.if_icmp .gt 7, 3) := by decide +kernel
theorem dX5_isLane_9 : decode cX5_isLane 9 = .ok (.iconst 1, 1) := by decide +kernel
theorem dX5_isLane_10 : decode cX5_isLane 10 = .ok (.goto 4, 3) := by decide +kernel
theorem dX5_isLane_13 : decode cX5_isLane 13 = .ok (.iconst 0, 1) := by decide +kernel
theorem dX5_isLane_14 : decode cX5_isLane 14 = .ok (.ireturn, 1) := by decide +kernel
set_option maxRecDepth 20000 in
theorem ggX5_trialIsTold_X1_strengthAfter : GoodIn wsX5_trialIsTold wsX1_strengthAfter := goodIn_r _ [9, 10, 11, 12, 13, 8, 14, 15, 16, 17, 18, 19, 20, 21, 22, 23, 24, 25, 26, 27, 28, 29, 30, 31, 32, 33, 34, 35, 36, 37, 38, 39, 40, 41, 42, 43, 44, 45, 46, 47, 48, 49, 50, 51, 52, 62, 63, 64, 65, 66, 67, 68, 69, 70, 71] (by decide +kernel) (by decide +kernel)
set_option maxRecDepth 20000 in
theorem gX5_trialIsTold_X1_strengthAfter : GoodIn wsX5_trialIsTold (wsV RX5 179 RX1 yX1_strengthAfter wsX1_strengthAfter) := goodIn_app (goodIn_of _ (by decide +kernel)) ggX5_trialIsTold_X1_strengthAfter
theorem dX5_trialIsTold_0 : decode cX5_trialIsTold 0 = .ok (.aload_n 0, 1) := by decide +kernel
theorem dX5_trialIsTold_1 : decode cX5_trialIsTold 1 = .ok (.getfield 33, 3) := by decide +kernel
theorem dX5_trialIsTold_4 : decode cX5_trialIsTold 4 = .ok (.getfield 85, 3) := by decide +kernel
theorem dX5_trialIsTold_7 : decode cX5_trialIsTold 7 = .ok (.iload_n 1, 1) := by decide +kernel
theorem dX5_trialIsTold_8 : decode cX5_trialIsTold 8 = .ok (.iaload, 1) := by decide +kernel
theorem dX5_trialIsTold_9 : decode cX5_trialIsTold 9 = .ok (.istore 5, 2) := by decide +kernel
theorem dX5_trialIsTold_11 : decode cX5_trialIsTold 11 = .ok (.iconst 0, 1) := by decide +kernel
theorem dX5_trialIsTold_12 : decode cX5_trialIsTold 12 = .ok (.istore 6, 2) := by decide +kernel
theorem dX5_trialIsTold_14 : decode cX5_trialIsTold 14 = .ok (.iload 6, 2) := by decide +kernel
theorem dX5_trialIsTold_16 : decode cX5_trialIsTold 16 = .ok (.iload 4, 2) := by decide +kernel
theorem dX5_trialIsTold_18 : decode cX5_trialIsTold 18 = .ok (.if_icmp .ge 49, 3) := by decide +kernel
theorem dX5_trialIsTold_21 : decode cX5_trialIsTold 21 = .ok (.aload_n 0, 1) := by decide +kernel
theorem dX5_trialIsTold_22 : decode cX5_trialIsTold 22 = .ok (.getfield 33, 3) := by decide +kernel
theorem dX5_trialIsTold_25 : decode cX5_trialIsTold 25 = .ok (.iload_n 1, 1) := by decide +kernel
theorem dX5_trialIsTold_26 : decode cX5_trialIsTold 26 = .ok (.iload 5, 2) := by decide +kernel
theorem dX5_trialIsTold_28 : decode cX5_trialIsTold 28 = .ok (.aload_n 0, 1) := by decide +kernel
theorem dX5_trialIsTold_29 : decode cX5_trialIsTold 29 = .ok (.getfield 33, 3) := by decide +kernel
theorem dX5_trialIsTold_32 : decode cX5_trialIsTold 32 = .ok (.getfield 88, 3) := by decide +kernel
theorem dX5_trialIsTold_35 : decode cX5_trialIsTold 35 = .ok (.iload 6, 2) := by decide +kernel
theorem dX5_trialIsTold_37 : decode cX5_trialIsTold 37 = .ok (.iadd, 1) := by decide +kernel
theorem dX5_trialIsTold_38 : decode cX5_trialIsTold 38 = .ok (.invokevirtual 179, 3) := by decide +kernel
theorem dX5_trialIsTold_41 : decode cX5_trialIsTold 41 = .ok (.istore 5, 2) := by decide +kernel
theorem dX5_trialIsTold_43 : decode cX5_trialIsTold 43 = .ok (.aload_n 2, 1) := by decide +kernel
theorem dX5_trialIsTold_44 : decode cX5_trialIsTold 44 = .ok (.getfield 266, 3) := by decide +kernel
theorem dX5_trialIsTold_47 : decode cX5_trialIsTold 47 = .ok (.iload_n 3, 1) := by decide +kernel
theorem dX5_trialIsTold_48 : decode cX5_trialIsTold 48 = .ok (.iload 6, 2) := by decide +kernel
theorem dX5_trialIsTold_50 : decode cX5_trialIsTold 50 = .ok (.iadd, 1) := by decide +kernel
theorem dX5_trialIsTold_51 : decode cX5_trialIsTold 51 = .ok (.laload, 1) := by decide +kernel
theorem dX5_trialIsTold_52 : decode cX5_trialIsTold 52 = .ok (.iload 5, 2) := by decide +kernel
theorem dX5_trialIsTold_54 : decode cX5_trialIsTold 54 = .ok (.i2l, 1) := by decide +kernel
theorem dX5_trialIsTold_55 : decode cX5_trialIsTold 55 = .ok (.lcmp, 1) := by decide +kernel
theorem dX5_trialIsTold_56 : decode cX5_trialIsTold 56 = .ok (.ifCond .eq 5, 3) := by decide +kernel
theorem dX5_trialIsTold_59 : decode cX5_trialIsTold 59 = .ok (.iconst 0, 1) := by decide +kernel
theorem dX5_trialIsTold_60 : decode cX5_trialIsTold 60 = .ok (.ireturn, 1) := by decide +kernel
theorem dX5_trialIsTold_61 : decode cX5_trialIsTold 61 = .ok (.iinc 6 1, 3) := by decide +kernel
theorem dX5_trialIsTold_64 : decode cX5_trialIsTold 64 = .ok (.goto (-50), 3) := by decide +kernel
theorem dX5_trialIsTold_67 : decode cX5_trialIsTold 67 = .ok (.iconst 1, 1) := by decide +kernel
theorem dX5_trialIsTold_68 : decode cX5_trialIsTold 68 = .ok (.ireturn, 1) := by decide +kernel
theorem dX5_greatestCommonDivisor_0 : decode cX5_greatestCommonDivisor 0 = .ok (.iload_n 0, 1) := by decide +kernel
theorem dX5_greatestCommonDivisor_1 : decode cX5_greatestCommonDivisor 1 = .ok (.istore_n 2, 1) := by decide +kernel
theorem dX5_greatestCommonDivisor_2 : decode cX5_greatestCommonDivisor 2 = .ok (.iload_n 1, 1) := by decide +kernel
theorem dX5_greatestCommonDivisor_3 : decode cX5_greatestCommonDivisor 3 = .ok (.istore_n 3, 1) := by decide +kernel
theorem dX5_greatestCommonDivisor_4 : decode cX5_greatestCommonDivisor 4 = .ok (.iconst 0, 1) := by decide +kernel
theorem dX5_greatestCommonDivisor_5 : decode cX5_greatestCommonDivisor 5 = .ok (.istore 4, 2) := by decide +kernel
theorem dX5_greatestCommonDivisor_7 : decode cX5_greatestCommonDivisor 7 = .ok (.iload 4, 2) := by decide +kernel
theorem dX5_greatestCommonDivisor_9 : decode cX5_greatestCommonDivisor 9 = .ok (.bipush 100, 2) := by decide +kernel
theorem dX5_greatestCommonDivisor_11 : decode cX5_greatestCommonDivisor 11 = .ok (.if_icmp .ge 23, 3) := by decide +kernel
theorem dX5_greatestCommonDivisor_14 : decode cX5_greatestCommonDivisor 14 = .ok (.iload_n 3, 1) := by decide +kernel
theorem dX5_greatestCommonDivisor_15 : decode cX5_greatestCommonDivisor 15 = .ok (.ifCond .eq 19, 3) := by decide +kernel
theorem dX5_greatestCommonDivisor_18 : decode cX5_greatestCommonDivisor 18 = .ok (.iload_n 2, 1) := by decide +kernel
theorem dX5_greatestCommonDivisor_19 : decode cX5_greatestCommonDivisor 19 = .ok (.iload_n 3, 1) := by decide +kernel
theorem dX5_greatestCommonDivisor_20 : decode cX5_greatestCommonDivisor 20 = .ok (.irem, 1) := by decide +kernel
theorem dX5_greatestCommonDivisor_21 : decode cX5_greatestCommonDivisor 21 = .ok (.istore 5, 2) := by decide +kernel
theorem dX5_greatestCommonDivisor_23 : decode cX5_greatestCommonDivisor 23 = .ok (.iload_n 3, 1) := by decide +kernel
theorem dX5_greatestCommonDivisor_24 : decode cX5_greatestCommonDivisor 24 = .ok (.istore_n 2, 1) := by decide +kernel
theorem dX5_greatestCommonDivisor_25 : decode cX5_greatestCommonDivisor 25 = .ok (.iload 5, 2) := by decide +kernel
theorem dX5_greatestCommonDivisor_27 : decode cX5_greatestCommonDivisor 27 = .ok (.istore_n 3, 1) := by decide +kernel
theorem dX5_greatestCommonDivisor_28 : decode cX5_greatestCommonDivisor 28 = .ok (.iinc 4 1, 3) := by decide +kernel
theorem dX5_greatestCommonDivisor_31 : decode cX5_greatestCommonDivisor 31 = .ok (.goto (-24), 3) := by decide +kernel
theorem dX5_greatestCommonDivisor_34 : decode cX5_greatestCommonDivisor 34 = .ok (.iload_n 2, 1) := by decide +kernel
theorem dX5_greatestCommonDivisor_35 : decode cX5_greatestCommonDivisor 35 = .ok (.ireturn, 1) := by decide +kernel
def fX5_ahead (p1 : Int32) (p2 : Int32) (p3 : Int32)  (men_n : Int32) (md_n : Int32) (day_n : Int32) (bu_n : Nat → Int32) (st_n : Nat → Int32) (ki_n : Nat → Int32) (we_n : Nat → Int32) (wo_n : Nat → Int32) (wr_n : Nat → Int32) : Option Int32 := (fX1_hasMan p1 men_n).bind (fun r1 => if r1 = 0 then (some (-1)) else (if p2 < 0 then (some (-1)) else (if 60 < p2 then (some (-1)) else (if p3 < 0 then (some (-1)) else (if p3 ≤ 1 then (if p3 = 0 then ((fX1_strengthBehind p1 p2 md_n day_n bu_n st_n ki_n we_n wo_n wr_n).bind (fun r9 => some r9)) else ((fX1_loadOn p1 (day_n + p2) md_n ki_n we_n wo_n wr_n).bind (fun r8 => some r8))) else (some (-1)))))))
theorem in_X5_ahead_X1 : ∀ w ∈ wsX10, w ∈ wsX5_ahead := by decide +kernel
theorem in_X5_ahead_X5 : ∀ w ∈ wsX50, w ∈ wsX5_ahead := by decide +kernel
set_option maxHeartbeats 4000000 in
set_option maxRecDepth 100000 in
theorem ct_X5_ahead {l : Launch} {D : va_G} {g : Nat → ClassId} {qa : Nat → Nat} {E0 : Nat → va_E} {p1 : Int32} {p2 : Int32} {p3 : Int32} {img_x : Int32} {men_n : Int32} {md_n : Int32} {day_n : Int32} {drw_n : Int32} {bu_n : Nat → Int32} {st_n : Nat → Int32} {ki_n : Nat → Int32} {we_n : Nat → Int32} {wo_n : Nat → Int32} {wr_n : Nat → Int32} (hG_x : Xo g qa E0 0 img_x) (hG_n : Mu g qa E0 1 men_n md_n day_n drw_n bu_n st_n ki_n we_n wo_n wr_n) {R : Int32} (hf : fX5_ahead p1 p2 p3 men_n md_n day_n bu_n st_n ki_n we_n wo_n wr_n = some R) : MI l yX5_ahead wsX5_ahead 5 D g qa E0 [.ref (qa 0), .int p1, .int p2, .int p3] R (fun E => E = E0) := by
  refine MI.mk (by decide) rfl (Nat.le_of_ble_eq_true rfl) ?_
  intro p e s m args below meth c ls Q X hret hP hS hl
  have hl : lv_has ls 4 [(0, .ref (qa 0)), (1, .int p1), (2, .int p2), (3, .int p3)] := hl
  rw [fX5_ahead] at hf
  refine lv_aload_n X.1 X.2.1 dX5_ahead_0 rfl (lv_at hl 0 rfl) ?_
  refine x_get X hP hG_x (by omega) rfl in_X5_ahead_X5 0 (by decide) (by decide +kernel) rfl rfl dX5_ahead_1 ?_
  refine lv_iload_n X.1 X.2.1 dX5_ahead_4 rfl (lv_at hl 1 rfl) ?_
  obtain ⟨r1, hr1, hf⟩ := bd_of hf
  refine x_rdVi X hP hS hG_n.1 (by omega) rfl (n := 1) (As := [.int p1]) (ct_X1_hasMan (by omega) hG_n hr1) gX5_ahead_X1_hasMan rfl (by decide +kernel) ⟨by decide, by decide⟩ rfl hl.1 rfl (Nat.le_of_ble_eq_true rfl) dX5_ahead_5 (fun H locs hP hS => ?_)
  refine lv_if_eq (tgt := 30) X.1 X.2.1 dX5_ahead_8 (by decide) (fun c2 => ?_) (fun c2 => ?_)
  · have hf := ifp hf c2
    refine lv_iconst (v := (-1)) X.1 X.2.1 dX5_ahead_30 (by decide) ?_
    obtain rfl := Option.some.inj hf
    exact hret _ _ _ _ _ _ dX5_ahead_31 rfl rfl (rfl) hP hS
  · have hf := ifn hf c2
    refine lv_iload_n X.1 X.2.1 dX5_ahead_11 rfl (lv_at hl 2 rfl) ?_
    refine lv_if_lt (tgt := 30) X.1 X.2.1 dX5_ahead_12 (by decide) (fun c3 => ?_) (fun c3 => ?_)
    · have hf := ifp hf c3
      refine lv_iconst (v := (-1)) X.1 X.2.1 dX5_ahead_30 (by decide) ?_
      obtain rfl := Option.some.inj hf
      exact hret _ _ _ _ _ _ dX5_ahead_31 rfl rfl (rfl) hP hS
    · have hf := ifn hf c3
      refine lv_iload_n X.1 X.2.1 dX5_ahead_15 rfl (lv_at hl 2 rfl) ?_
      refine lv_bipush (v := 60) X.1 X.2.1 dX5_ahead_16 (by decide) ?_
      refine lv_icmp_gt (tgt := 30) X.1 X.2.1 dX5_ahead_18 (by decide) (fun c4 => ?_) (fun c4 => ?_)
      · have hf := ifp hf c4
        refine lv_iconst (v := (-1)) X.1 X.2.1 dX5_ahead_30 (by decide) ?_
        obtain rfl := Option.some.inj hf
        exact hret _ _ _ _ _ _ dX5_ahead_31 rfl rfl (rfl) hP hS
      · have hf := ifn hf c4
        refine lv_iload_n X.1 X.2.1 dX5_ahead_21 rfl (lv_at hl 3 rfl) ?_
        refine lv_if_lt (tgt := 30) X.1 X.2.1 dX5_ahead_22 (by decide) (fun c5 => ?_) (fun c5 => ?_)
        · have hf := ifp hf c5
          refine lv_iconst (v := (-1)) X.1 X.2.1 dX5_ahead_30 (by decide) ?_
          obtain rfl := Option.some.inj hf
          exact hret _ _ _ _ _ _ dX5_ahead_31 rfl rfl (rfl) hP hS
        · have hf := ifn hf c5
          refine lv_iload_n X.1 X.2.1 dX5_ahead_25 rfl (lv_at hl 3 rfl) ?_
          refine lv_iconst (v := 1) X.1 X.2.1 dX5_ahead_26 (by decide) ?_
          refine lv_icmp_le (tgt := 32) X.1 X.2.1 dX5_ahead_27 (by decide) (fun c6 => ?_) (fun c6 => ?_)
          · have hf := ifp hf c6
            refine lv_iload_n X.1 X.2.1 dX5_ahead_32 rfl (lv_at hl 3 rfl) ?_
            refine lv_if_ne (tgt := 48) X.1 X.2.1 dX5_ahead_33 (by decide) (fun c7 => ?_) (fun c7 => ?_)
            · have hf := ifn hf c7
              refine lv_aload_n X.1 X.2.1 dX5_ahead_48 rfl (lv_at hl 0 rfl) ?_
              refine x_get X hP hG_x (by omega) rfl in_X5_ahead_X5 0 (by decide) (by decide +kernel) rfl rfl dX5_ahead_49 ?_
              refine lv_iload_n X.1 X.2.1 dX5_ahead_52 rfl (lv_at hl 1 rfl) ?_
              refine lv_aload_n X.1 X.2.1 dX5_ahead_53 rfl (lv_at hl 0 rfl) ?_
              refine x_get X hP hG_x (by omega) rfl in_X5_ahead_X5 0 (by decide) (by decide +kernel) rfl rfl dX5_ahead_54 ?_
              refine x_get X hP hG_n.1 (by omega) rfl in_X5_ahead_X1 8 (by decide) (by decide +kernel) rfl rfl dX5_ahead_57 ?_
              refine lv_iload_n X.1 X.2.1 dX5_ahead_60 rfl (lv_at hl 2 rfl) ?_
              refine lv_iadd X.1 X.2.1 dX5_ahead_61 ?_
              obtain ⟨r8, hr8, hf⟩ := bd_of hf
              refine x_rdVi X hP hS hG_n.1 (by omega) rfl (n := 2) (As := [.int p1, .int (day_n + p2)]) (ct_X1_loadOn (by omega) hG_n hr8) gX5_ahead_X1_loadOn rfl (by decide +kernel) ⟨by decide, by decide⟩ rfl hl.1 rfl (Nat.le_of_ble_eq_true rfl) dX5_ahead_62 (fun H locs hP hS => ?_)
              obtain rfl := Option.some.inj hf
              exact hret _ _ _ _ _ _ dX5_ahead_65 rfl rfl (rfl) hP hS
            · have hf := ifp hf c7
              refine lv_aload_n X.1 X.2.1 dX5_ahead_36 rfl (lv_at hl 0 rfl) ?_
              refine x_get X hP hG_x (by omega) rfl in_X5_ahead_X5 0 (by decide) (by decide +kernel) rfl rfl dX5_ahead_37 ?_
              refine lv_iload_n X.1 X.2.1 dX5_ahead_40 rfl (lv_at hl 1 rfl) ?_
              refine lv_iload_n X.1 X.2.1 dX5_ahead_41 rfl (lv_at hl 2 rfl) ?_
              obtain ⟨r9, hr9, hf⟩ := bd_of hf
              refine x_rdVi X hP hS hG_n.1 (by omega) rfl (n := 2) (As := [.int p1, .int p2]) (ct_X1_strengthBehind (by omega) hG_n hr9) gX5_ahead_X1_strengthBehind rfl (by decide +kernel) ⟨by decide, by decide⟩ rfl hl.1 rfl (Nat.le_of_ble_eq_true rfl) dX5_ahead_42 (fun H locs hP hS => ?_)
              refine lv_goto (tgt := 65) X.1 X.2.1 dX5_ahead_45 (by decide) ?_
              obtain rfl := Option.some.inj hf
              exact hret _ _ _ _ _ _ dX5_ahead_65 rfl rfl (rfl) hP hS
          · have hf := ifn hf c6
            refine lv_iconst (v := (-1)) X.1 X.2.1 dX5_ahead_30 (by decide) ?_
            obtain rfl := Option.some.inj hf
            exact hret _ _ _ _ _ _ dX5_ahead_31 rfl rfl (rfl) hP hS
def fX5_at (p1 : Int32) (p2 : Int32)  (md_n : Int32) (day_n : Int32) (ki_n : Nat → Int32) (we_n : Nat → Int32) (wo_n : Nat → Int32) (wr_n : Nat → Int32) : Option Int32 := (fX1_hasMedal p1 md_n).bind (fun r1 => if r1 = 0 then (some (-1)) else (if p2 = 0 then (gin p1 6 (some (ki_n (Int32.toNatClampNeg p1)))) else (if p2 = 1 then (gin p1 6 (some (we_n (Int32.toNatClampNeg p1)))) else (if p2 = 2 then (gin p1 6 (some (wo_n (Int32.toNatClampNeg p1)))) else (if p2 = 3 then (gin p1 6 (some (wr_n (Int32.toNatClampNeg p1)))) else (if p2 = 4 then ((fX1_bearsNow p1 md_n day_n ki_n we_n wo_n wr_n).bind (fun r12 => some r12)) else (some (-1))))))))
theorem in_X5_at_X1 : ∀ w ∈ wsX10, w ∈ wsX5_at := by decide +kernel
theorem in_X5_at_X5 : ∀ w ∈ wsX50, w ∈ wsX5_at := by decide +kernel
set_option maxHeartbeats 4000000 in
set_option maxRecDepth 100000 in
theorem ct_X5_at {l : Launch} {D : va_G} {g : Nat → ClassId} {qa : Nat → Nat} {E0 : Nat → va_E} {p1 : Int32} {p2 : Int32} {img_x : Int32} {men_n : Int32} {md_n : Int32} {day_n : Int32} {drw_n : Int32} {bu_n : Nat → Int32} {st_n : Nat → Int32} {ki_n : Nat → Int32} {we_n : Nat → Int32} {wo_n : Nat → Int32} {wr_n : Nat → Int32} (hG_x : Xo g qa E0 0 img_x) (hG_n : Mu g qa E0 1 men_n md_n day_n drw_n bu_n st_n ki_n we_n wo_n wr_n) {R : Int32} (hf : fX5_at p1 p2 md_n day_n ki_n we_n wo_n wr_n = some R) : MI l yX5_at wsX5_at 3 D g qa E0 [.ref (qa 0), .int p1, .int p2] R (fun E => E = E0) := by
  refine MI.mk (by decide) rfl (Nat.le_of_ble_eq_true rfl) ?_
  intro p e s m args below meth c ls Q X hret hP hS hl
  have hl : lv_has ls 3 [(0, .ref (qa 0)), (1, .int p1), (2, .int p2)] := hl
  rw [fX5_at] at hf
  refine lv_aload_n X.1 X.2.1 dX5_at_0 rfl (lv_at hl 0 rfl) ?_
  refine x_get X hP hG_x (by omega) rfl in_X5_at_X5 0 (by decide) (by decide +kernel) rfl rfl dX5_at_1 ?_
  refine lv_iload_n X.1 X.2.1 dX5_at_4 rfl (lv_at hl 1 rfl) ?_
  obtain ⟨r1, hr1, hf⟩ := bd_of hf
  refine x_rdVi X hP hS hG_n.1 (by omega) rfl (n := 1) (As := [.int p1]) (ct_X1_hasMedal (by omega) hG_n hr1) gX5_at_X1_hasMedal rfl (by decide +kernel) ⟨by decide, by decide⟩ rfl hl.1 rfl (Nat.le_of_ble_eq_true rfl) dX5_at_5 (fun H locs hP hS => ?_)
  refine lv_if_ne (tgt := 13) X.1 X.2.1 dX5_at_8 (by decide) (fun c2 => ?_) (fun c2 => ?_)
  · have hf := ifn hf c2
    refine lv_iload_n X.1 X.2.1 dX5_at_13 rfl (lv_at hl 2 rfl) ?_
    by_cases w3 : p2 = 0
    · have hf := ifp hf w3
      refine lv_tableIn (tgt := 48) X.1 X.2.1 dX5_at_14 (by rw [w3]; decide) (by rw [w3]; decide) (off := 34) (by rw [w3]; decide) (by decide) ?_
      refine lv_aload_n X.1 X.2.1 dX5_at_48 rfl (lv_at hl 0 rfl) ?_
      refine x_get X hP hG_x (by omega) rfl in_X5_at_X5 0 (by decide) (by decide +kernel) rfl rfl dX5_at_49 ?_
      refine x_get X hP hG_n.1 (by omega) rfl in_X5_at_X1 4 (by decide) (by decide +kernel) rfl rfl dX5_at_52 ?_
      refine lv_iload_n X.1 X.2.1 dX5_at_55 rfl (lv_at hl 1 rfl) ?_
      obtain ⟨hi4, hf⟩ := gin_of hf
      refine x_iald X hP hG_n.2.2.2.1 (by omega) hi4 dX5_at_56 ?_
      obtain rfl := Option.some.inj hf
      exact hret _ _ _ _ _ _ dX5_at_57 rfl rfl (rfl) hP hS
    have hf := ifn hf w3
    by_cases w5 : p2 = 1
    · have hf := ifp hf w5
      refine lv_tableIn (tgt := 58) X.1 X.2.1 dX5_at_14 (by rw [w5]; decide) (by rw [w5]; decide) (off := 44) (by rw [w5]; decide) (by decide) ?_
      refine lv_aload_n X.1 X.2.1 dX5_at_58 rfl (lv_at hl 0 rfl) ?_
      refine x_get X hP hG_x (by omega) rfl in_X5_at_X5 0 (by decide) (by decide +kernel) rfl rfl dX5_at_59 ?_
      refine x_get X hP hG_n.1 (by omega) rfl in_X5_at_X1 5 (by decide) (by decide +kernel) rfl rfl dX5_at_62 ?_
      refine lv_iload_n X.1 X.2.1 dX5_at_65 rfl (lv_at hl 1 rfl) ?_
      obtain ⟨hi6, hf⟩ := gin_of hf
      refine x_iald X hP hG_n.2.2.2.2.1 (by omega) hi6 dX5_at_66 ?_
      obtain rfl := Option.some.inj hf
      exact hret _ _ _ _ _ _ dX5_at_67 rfl rfl (rfl) hP hS
    have hf := ifn hf w5
    by_cases w7 : p2 = 2
    · have hf := ifp hf w7
      refine lv_tableIn (tgt := 68) X.1 X.2.1 dX5_at_14 (by rw [w7]; decide) (by rw [w7]; decide) (off := 54) (by rw [w7]; decide) (by decide) ?_
      refine lv_aload_n X.1 X.2.1 dX5_at_68 rfl (lv_at hl 0 rfl) ?_
      refine x_get X hP hG_x (by omega) rfl in_X5_at_X5 0 (by decide) (by decide +kernel) rfl rfl dX5_at_69 ?_
      refine x_get X hP hG_n.1 (by omega) rfl in_X5_at_X1 6 (by decide) (by decide +kernel) rfl rfl dX5_at_72 ?_
      refine lv_iload_n X.1 X.2.1 dX5_at_75 rfl (lv_at hl 1 rfl) ?_
      obtain ⟨hi8, hf⟩ := gin_of hf
      refine x_iald X hP hG_n.2.2.2.2.2.1 (by omega) hi8 dX5_at_76 ?_
      obtain rfl := Option.some.inj hf
      exact hret _ _ _ _ _ _ dX5_at_77 rfl rfl (rfl) hP hS
    have hf := ifn hf w7
    by_cases w9 : p2 = 3
    · have hf := ifp hf w9
      refine lv_tableIn (tgt := 78) X.1 X.2.1 dX5_at_14 (by rw [w9]; decide) (by rw [w9]; decide) (off := 64) (by rw [w9]; decide) (by decide) ?_
      refine lv_aload_n X.1 X.2.1 dX5_at_78 rfl (lv_at hl 0 rfl) ?_
      refine x_get X hP hG_x (by omega) rfl in_X5_at_X5 0 (by decide) (by decide +kernel) rfl rfl dX5_at_79 ?_
      refine x_get X hP hG_n.1 (by omega) rfl in_X5_at_X1 7 (by decide) (by decide +kernel) rfl rfl dX5_at_82 ?_
      refine lv_iload_n X.1 X.2.1 dX5_at_85 rfl (lv_at hl 1 rfl) ?_
      obtain ⟨hi10, hf⟩ := gin_of hf
      refine x_iald X hP hG_n.2.2.2.2.2.2 (by omega) hi10 dX5_at_86 ?_
      obtain rfl := Option.some.inj hf
      exact hret _ _ _ _ _ _ dX5_at_87 rfl rfl (rfl) hP hS
    have hf := ifn hf w9
    by_cases w11 : p2 = 4
    · have hf := ifp hf w11
      refine lv_tableIn (tgt := 88) X.1 X.2.1 dX5_at_14 (by rw [w11]; decide) (by rw [w11]; decide) (off := 74) (by rw [w11]; decide) (by decide) ?_
      refine lv_aload_n X.1 X.2.1 dX5_at_88 rfl (lv_at hl 0 rfl) ?_
      refine x_get X hP hG_x (by omega) rfl in_X5_at_X5 0 (by decide) (by decide +kernel) rfl rfl dX5_at_89 ?_
      refine lv_iload_n X.1 X.2.1 dX5_at_92 rfl (lv_at hl 1 rfl) ?_
      obtain ⟨r12, hr12, hf⟩ := bd_of hf
      refine x_rdVi X hP hS hG_n.1 (by omega) rfl (n := 1) (As := [.int p1]) (ct_X1_bearsNow (by omega) hG_n hr12) gX5_at_X1_bearsNow rfl (by decide +kernel) ⟨by decide, by decide⟩ rfl hl.1 rfl (Nat.le_of_ble_eq_true rfl) dX5_at_93 (fun H locs hP hS => ?_)
      obtain rfl := Option.some.inj hf
      exact hret _ _ _ _ _ _ dX5_at_96 rfl rfl (rfl) hP hS
    have hf := ifn hf w11
    refine lv_tableOut (tgt := 97) X.1 X.2.1 dX5_at_14 (by have := i_ne 0 (0) (by decide) w3; have := i_ne 1 (1) (by decide) w5; have := i_ne 2 (2) (by decide) w7; have := i_ne 3 (3) (by decide) w9; have := i_ne 4 (4) (by decide) w11; omega) (by decide) ?_
    refine lv_iconst (v := (-1)) X.1 X.2.1 dX5_at_97 (by decide) ?_
    obtain rfl := Option.some.inj hf
    exact hret _ _ _ _ _ _ dX5_at_98 rfl rfl (rfl) hP hS
  · have hf := ifp hf c2
    refine lv_iconst (v := (-1)) X.1 X.2.1 dX5_at_11 (by decide) ?_
    obtain rfl := Option.some.inj hf
    exact hret _ _ _ _ _ _ dX5_at_12 rfl rfl (rfl) hP hS
def fX5_isSheet (p1 : Int32)   : Option Int32 := if p1 < 0 then (some 0) else (if 4 ≤ p1 then (some 0) else (some 1))
set_option maxHeartbeats 4000000 in
set_option maxRecDepth 100000 in
theorem ct_X5_isSheet {l : Launch} {D : va_G} {g : Nat → ClassId} {qa : Nat → Nat} {E0 : Nat → va_E} {p1 : Int32} {R : Int32} (hf : fX5_isSheet p1 = some R) : MI l yX5_isSheet wsX5_isSheet 0 D g qa E0 [.int p1] R (fun E => E = E0) := by
  refine MI.mk (by decide) rfl (Nat.le_of_ble_eq_true rfl) ?_
  intro p e s m args below meth c ls Q X hret hP hS hl
  have hl : lv_has ls 1 [(0, .int p1)] := hl
  rw [fX5_isSheet] at hf
  refine lv_iload_n X.1 X.2.1 dX5_isSheet_0 rfl (lv_at hl 0 rfl) ?_
  refine lv_if_lt (tgt := 13) X.1 X.2.1 dX5_isSheet_1 (by decide) (fun c1 => ?_) (fun c1 => ?_)
  · have hf := ifp hf c1
    refine lv_iconst (v := 0) X.1 X.2.1 dX5_isSheet_13 (by decide) ?_
    obtain rfl := Option.some.inj hf
    exact hret _ _ _ _ _ _ dX5_isSheet_14 rfl rfl (rfl) hP hS
  · have hf := ifn hf c1
    refine lv_iload_n X.1 X.2.1 dX5_isSheet_4 rfl (lv_at hl 0 rfl) ?_
    refine lv_iconst (v := 4) X.1 X.2.1 dX5_isSheet_5 (by decide) ?_
    refine lv_icmp_ge (tgt := 13) X.1 X.2.1 dX5_isSheet_6 (by decide) (fun c2 => ?_) (fun c2 => ?_)
    · have hf := ifp hf c2
      refine lv_iconst (v := 0) X.1 X.2.1 dX5_isSheet_13 (by decide) ?_
      obtain rfl := Option.some.inj hf
      exact hret _ _ _ _ _ _ dX5_isSheet_14 rfl rfl (rfl) hP hS
    · have hf := ifn hf c2
      refine lv_iconst (v := 1) X.1 X.2.1 dX5_isSheet_9 (by decide) ?_
      refine lv_goto (tgt := 14) X.1 X.2.1 dX5_isSheet_10 (by decide) ?_
      obtain rfl := Option.some.inj hf
      exact hret _ _ _ _ _ _ dX5_isSheet_14 rfl rfl (rfl) hP hS
def fX5_copy (p1 : Int32) (p2 : Int32) (p3 : Int32) (p4 : Int32) (p5 : Int32)  (th_r : Nat → Int32) (lan_r : Nat → Int32) (siz_r : Nat → Int32) (itm_r : Nat → Nat → Int64) : Option (Int32 × (Nat → Nat → Int64)) := (fX5_isSheet p1).bind (fun r1 => if r1 = 0 then (some ((-1), itm_r)) else ((fX5_isSheet p3).bind (fun r3 => if r3 = 0 then (some ((-1), itm_r)) else (gin p1 4 (gin p3 4 (if (th_r (Int32.toNatClampNeg p1)) = 0 then (some ((-11), itm_r)) else (if (th_r (Int32.toNatClampNeg p3)) = 0 then (some ((-11), itm_r)) else (if (lan_r (Int32.toNatClampNeg p1)) = (lan_r (Int32.toNatClampNeg p3)) then ((fX3_reaches p2 p5 (siz_r (Int32.toNatClampNeg p1))).bind (fun r12 => if r12 = 0 then (some ((-13), itm_r)) else ((fX3_reaches p4 p5 (siz_r (Int32.toNatClampNeg p3))).bind (fun r14 => if r14 = 0 then (some ((-13), itm_r)) else (gcp p2 p4 p5 24 24 (some (p5, va_up itm_r (Int32.toNatClampNeg p3) (va_cpy (itm_r (Int32.toNatClampNeg p1)) (itm_r (Int32.toNatClampNeg p3)) (Int32.toNatClampNeg p2) (Int32.toNatClampNeg p4) (Int32.toNatClampNeg p5))))))))) else (some ((-12), itm_r))))))))))
theorem in_X5_copy_X3 : ∀ w ∈ wsX30, w ∈ wsX5_copy := by decide +kernel
theorem in_X5_copy_X5 : ∀ w ∈ wsX50, w ∈ wsX5_copy := by decide +kernel
set_option maxHeartbeats 4000000 in
set_option maxRecDepth 100000 in
theorem ct_X5_copy {l : Launch} {D : va_G} {g : Nat → ClassId} {qa : Nat → Nat} {E0 : Nat → va_E} {p1 : Int32} {p2 : Int32} {p3 : Int32} {p4 : Int32} {p5 : Int32} {img_x : Int32} {th_r : Nat → Int32} {lan_r : Nat → Int32} {siz_r : Nat → Int32} {itm_r : Nat → Nat → Int64} (hG_x : Xo g qa E0 0 img_x) (hG_r : Rs g qa E0 55 th_r lan_r siz_r itm_r) {R : (Int32 × (Nat → Nat → Int64))} (hf : fX5_copy p1 p2 p3 p4 p5 th_r lan_r siz_r itm_r = some R) : MI l yX5_copy wsX5_copy 1 D g qa E0 [.ref (qa 0), .int p1, .int p2, .int p3, .int p4, .int p5] R.1 (fun E => Rs g qa E 55 th_r lan_r siz_r R.2 ∧ ∀ j, (j < 55 ∨ 64 ≤ j) → E j = E0 j) := by
  refine MI.mk (by decide) rfl (Nat.le_of_ble_eq_true rfl) ?_
  intro p e s m args below meth c ls Q X hret hP hS hl
  have hl : lv_has ls 8 [(0, .ref (qa 0)), (1, .int p1), (2, .int p2), (3, .int p3), (4, .int p4), (5, .int p5)] := hl
  have hfr : ∀ j, (j < 55 ∨ 64 ≤ j) → E0 j = E0 j := fun _ _ => rfl
  rw [fX5_copy] at hf
  refine lv_iload_n X.1 X.2.1 dX5_copy_0 rfl (lv_at hl 1 rfl) ?_
  obtain ⟨r1, hr1, hf⟩ := bd_of hf
  refine x_rdSi X hP hS (index := 235) (n := 1) (As := [.int p1]) (ct_X5_isSheet  hr1) ggX5_copy_X5_isSheet (by decide +kernel) (by decide +kernel) (by decide +kernel) rfl (by decide +kernel) ⟨by decide, by decide⟩ rfl hl.1 rfl (Nat.le_of_ble_eq_true rfl) dX5_copy_1 (fun H locs hP hS => ?_)
  refine lv_if_eq (tgt := 14) X.1 X.2.1 dX5_copy_4 (by decide) (fun c2 => ?_) (fun c2 => ?_)
  · have hf := ifp hf c2
    refine lv_iconst (v := (-1)) X.1 X.2.1 dX5_copy_14 (by decide) ?_
    obtain rfl := Option.some.inj hf
    exact hret _ _ _ _ _ _ dX5_copy_15 rfl rfl (⟨hG_r, hfr⟩) hP hS
  · have hf := ifn hf c2
    refine lv_iload_n X.1 X.2.1 dX5_copy_7 rfl (lv_at hl 3 rfl) ?_
    obtain ⟨r3, hr3, hf⟩ := bd_of hf
    refine x_rdSi X hP hS (index := 235) (n := 1) (As := [.int p3]) (ct_X5_isSheet  hr3) ggX5_copy_X5_isSheet (by decide +kernel) (by decide +kernel) (by decide +kernel) rfl (by decide +kernel) ⟨by decide, by decide⟩ rfl hl.1 rfl (Nat.le_of_ble_eq_true rfl) dX5_copy_8 (fun H locs hP hS => ?_)
    refine lv_if_ne (tgt := 16) X.1 X.2.1 dX5_copy_11 (by decide) (fun c4 => ?_) (fun c4 => ?_)
    · have hf := ifn hf c4
      refine lv_aload_n X.1 X.2.1 dX5_copy_16 rfl (lv_at hl 0 rfl) ?_
      refine x_get X hP hG_x (by omega) rfl in_X5_copy_X5 8 (by decide) (by decide +kernel) rfl rfl dX5_copy_17 ?_
      refine lv_iload_n X.1 X.2.1 dX5_copy_20 rfl (lv_at hl 1 rfl) ?_
      obtain ⟨hi5, hf⟩ := gin_of hf
      have hj6 := in_lt hi5
      refine x_aald X hP 4 rfl rfl hG_r.1 (by omega) hi5 dX5_copy_21 ?_
      refine lv_astore (lv' := [(6, .ref (qa (55 + 1 + (Int32.toNatClampNeg p1)))), (0, .ref (qa 0)), (1, .int p1), (2, .int p2), (3, .int p3), (4, .int p4), (5, .int p5)]) X.1 X.2.1 dX5_copy_22 hl (by decide) rfl (fun ls hl => ?_)
      refine lv_aload_n X.1 X.2.1 dX5_copy_24 rfl (lv_at hl 1 rfl) ?_
      refine x_get X hP hG_x (by omega) rfl in_X5_copy_X5 8 (by decide) (by decide +kernel) rfl rfl dX5_copy_25 ?_
      refine lv_iload_n X.1 X.2.1 dX5_copy_28 rfl (lv_at hl 4 rfl) ?_
      obtain ⟨hi7, hf⟩ := gin_of hf
      have hj8 := in_lt hi7
      refine x_aald X hP 4 rfl rfl hG_r.1 (by omega) hi7 dX5_copy_29 ?_
      refine lv_astore (lv' := [(7, .ref (qa (55 + 1 + (Int32.toNatClampNeg p3)))), (6, .ref (qa (55 + 1 + (Int32.toNatClampNeg p1)))), (0, .ref (qa 0)), (1, .int p1), (2, .int p2), (3, .int p3), (4, .int p4), (5, .int p5)]) X.1 X.2.1 dX5_copy_30 hl (by decide) rfl (fun ls hl => ?_)
      refine lv_aload X.1 X.2.1 dX5_copy_32 (lv_at hl 1 rfl) ?_
      refine x_get X hP (hG_r.2.1 _ hj6) (by omega) rfl in_X5_copy_X3 0 (by decide) (by decide +kernel) rfl rfl dX5_copy_34 ?_
      refine lv_if_eq (tgt := 48) X.1 X.2.1 dX5_copy_37 (by decide) (fun c9 => ?_) (fun c9 => ?_)
      · have hf := ifp hf c9
        refine lv_bipush (v := (-11)) X.1 X.2.1 dX5_copy_48 (by decide) ?_
        obtain rfl := Option.some.inj hf
        exact hret _ _ _ _ _ _ dX5_copy_50 rfl rfl (⟨hG_r, hfr⟩) hP hS
      · have hf := ifn hf c9
        refine lv_aload X.1 X.2.1 dX5_copy_40 (lv_at hl 0 rfl) ?_
        refine x_get X hP (hG_r.2.1 _ hj8) (by omega) rfl in_X5_copy_X3 0 (by decide) (by decide +kernel) rfl rfl dX5_copy_42 ?_
        refine lv_if_ne (tgt := 51) X.1 X.2.1 dX5_copy_45 (by decide) (fun c10 => ?_) (fun c10 => ?_)
        · have hf := ifn hf c10
          refine lv_aload X.1 X.2.1 dX5_copy_51 (lv_at hl 1 rfl) ?_
          refine x_get X hP (hG_r.2.1 _ hj6) (by omega) rfl in_X5_copy_X3 1 (by decide) (by decide +kernel) rfl rfl dX5_copy_53 ?_
          refine lv_aload X.1 X.2.1 dX5_copy_56 (lv_at hl 0 rfl) ?_
          refine x_get X hP (hG_r.2.1 _ hj8) (by omega) rfl in_X5_copy_X3 1 (by decide) (by decide +kernel) rfl rfl dX5_copy_58 ?_
          refine lv_icmp_eq (tgt := 67) X.1 X.2.1 dX5_copy_61 (by decide) (fun c11 => ?_) (fun c11 => ?_)
          · have hf := ifp hf c11
            refine lv_aload X.1 X.2.1 dX5_copy_67 (lv_at hl 1 rfl) ?_
            refine lv_iload_n X.1 X.2.1 dX5_copy_69 rfl (lv_at hl 4 rfl) ?_
            refine lv_iload X.1 X.2.1 dX5_copy_70 (lv_at hl 7 rfl) ?_
            obtain ⟨r12, hr12, hf⟩ := bd_of hf
            refine x_rdVi X hP hS (hG_r.2.1 _ hj6) (by omega) rfl (n := 2) (As := [.int p2, .int p5]) (ct_X3_reaches (by omega) (Ro_of hG_r hj6) hr12) gX5_copy_X3_reaches rfl (by decide +kernel) ⟨by decide, by decide⟩ rfl hl.1 rfl (Nat.le_of_ble_eq_true rfl) dX5_copy_72 (fun H locs hP hS => ?_)
            refine lv_if_eq (tgt := 90) X.1 X.2.1 dX5_copy_75 (by decide) (fun c13 => ?_) (fun c13 => ?_)
            · have hf := ifp hf c13
              refine lv_bipush (v := (-13)) X.1 X.2.1 dX5_copy_90 (by decide) ?_
              obtain rfl := Option.some.inj hf
              exact hret _ _ _ _ _ _ dX5_copy_92 rfl rfl (⟨hG_r, hfr⟩) hP hS
            · have hf := ifn hf c13
              refine lv_aload X.1 X.2.1 dX5_copy_78 (lv_at hl 0 rfl) ?_
              refine lv_iload X.1 X.2.1 dX5_copy_80 (lv_at hl 6 rfl) ?_
              refine lv_iload X.1 X.2.1 dX5_copy_82 (lv_at hl 7 rfl) ?_
              obtain ⟨r14, hr14, hf⟩ := bd_of hf
              refine x_rdVi X hP hS (hG_r.2.1 _ hj8) (by omega) rfl (n := 2) (As := [.int p4, .int p5]) (ct_X3_reaches (by omega) (Ro_of hG_r hj8) hr14) gX5_copy_X3_reaches rfl (by decide +kernel) ⟨by decide, by decide⟩ rfl hl.1 rfl (Nat.le_of_ble_eq_true rfl) dX5_copy_84 (fun H locs hP hS => ?_)
              refine lv_if_ne (tgt := 93) X.1 X.2.1 dX5_copy_87 (by decide) (fun c15 => ?_) (fun c15 => ?_)
              · have hf := ifn hf c15
                refine lv_aload X.1 X.2.1 dX5_copy_93 (lv_at hl 1 rfl) ?_
                refine x_get X hP (hG_r.2.1 _ hj6) (by omega) rfl in_X5_copy_X3 3 (by decide) (by decide +kernel) rfl rfl dX5_copy_95 ?_
                refine lv_iload_n X.1 X.2.1 dX5_copy_98 rfl (lv_at hl 4 rfl) ?_
                refine lv_aload X.1 X.2.1 dX5_copy_99 (lv_at hl 0 rfl) ?_
                refine x_get X hP (hG_r.2.1 _ hj8) (by omega) rfl in_X5_copy_X3 3 (by decide) (by decide +kernel) rfl rfl dX5_copy_101 ?_
                refine lv_iload X.1 X.2.1 dX5_copy_104 (lv_at hl 6 rfl) ?_
                refine lv_iload X.1 X.2.1 dX5_copy_106 (lv_at hl 7 rfl) ?_
                obtain ⟨hy16, hf⟩ := gcp_of hf
                refine x_copyl X hP hS (hG_r.2.2 _ hj6) (by omega) (hG_r.2.2 _ hj8) (by omega) (index := 270) (by decide +kernel) (by decide +kernel) (by decide +kernel) (by decide +kernel) hl.1 hy16.1 hy16.2.1 hy16.2.2.1 hy16.2.2.2.1 hy16.2.2.2.2 (by decide) (Nat.le_of_ble_eq_true rfl) dX5_copy_108 (fun E H locs h1 hk hP hS => ?_)
                have hG_r := Rs_set_Q hG_r hj8 h1 hk
                have hG_x := Xo_kept hG_x (fun j h8 h9 => hk j (by omega))
                have hfr : ∀ j, (j < 55 ∨ 64 ≤ j) → E j = E0 j := fun j o0 => (hk j (by omega)).trans (hfr j o0)
                refine lv_iload X.1 X.2.1 dX5_copy_111 (lv_at hl 7 rfl) ?_
                obtain rfl := Option.some.inj hf
                exact hret _ _ _ _ _ _ dX5_copy_113 rfl rfl (⟨hG_r, hfr⟩) hP hS
              · have hf := ifp hf c15
                refine lv_bipush (v := (-13)) X.1 X.2.1 dX5_copy_90 (by decide) ?_
                obtain rfl := Option.some.inj hf
                exact hret _ _ _ _ _ _ dX5_copy_92 rfl rfl (⟨hG_r, hfr⟩) hP hS
          · have hf := ifn hf c11
            refine lv_bipush (v := (-12)) X.1 X.2.1 dX5_copy_64 (by decide) ?_
            obtain rfl := Option.some.inj hf
            exact hret _ _ _ _ _ _ dX5_copy_66 rfl rfl (⟨hG_r, hfr⟩) hP hS
        · have hf := ifp hf c10
          refine lv_bipush (v := (-11)) X.1 X.2.1 dX5_copy_48 (by decide) ?_
          obtain rfl := Option.some.inj hf
          exact hret _ _ _ _ _ _ dX5_copy_50 rfl rfl (⟨hG_r, hfr⟩) hP hS
    · have hf := ifp hf c4
      refine lv_iconst (v := (-1)) X.1 X.2.1 dX5_copy_14 (by decide) ?_
      obtain rfl := Option.some.inj hf
      exact hret _ _ _ _ _ _ dX5_copy_15 rfl rfl (⟨hG_r, hfr⟩) hP hS
def fX5_count (p1 : Int32)  (men_n : Int32) (md_n : Int32) (day_n : Int32) (st_n : Nat → Int32) (ki_n : Nat → Int32) (we_n : Nat → Int32) (wo_n : Nat → Int32) (wr_n : Nat → Int32) (kn_p : Int32) : Option Int32 := if p1 = 0 then (some men_n) else (if p1 = 1 then (some md_n) else (if p1 = 2 then (some day_n) else (if p1 = 3 then ((fX1_allBent men_n md_n day_n st_n ki_n we_n wo_n wr_n).bind (fun r5 => some r5)) else (if p1 = 4 then ((fX1_wornBy (-4) md_n wr_n).bind (fun r7 => some r7)) else (if p1 = 5 then ((fX1_allStrength men_n st_n).bind (fun r9 => some r9)) else (if p1 = 6 then ((fX1_allLoads men_n md_n day_n ki_n we_n wo_n wr_n).bind (fun r11 => some r11)) else (if p1 = 7 then (some kn_p) else (some (-1)))))))))
theorem in_X5_count_X1 : ∀ w ∈ wsX10, w ∈ wsX5_count := by decide +kernel
theorem in_X5_count_X2 : ∀ w ∈ wsX20, w ∈ wsX5_count := by decide +kernel
theorem in_X5_count_X5 : ∀ w ∈ wsX50, w ∈ wsX5_count := by decide +kernel
set_option maxHeartbeats 4000000 in
set_option maxRecDepth 100000 in
theorem ct_X5_count {l : Launch} {D : va_G} {g : Nat → ClassId} {qa : Nat → Nat} {E0 : Nat → va_E} {p1 : Int32} {img_x : Int32} {men_n : Int32} {md_n : Int32} {day_n : Int32} {drw_n : Int32} {bu_n : Nat → Int32} {st_n : Nat → Int32} {ki_n : Nat → Int32} {we_n : Nat → Int32} {wo_n : Nat → Int32} {wr_n : Nat → Int32} {kn_p : Int32} {nx_p : Int32} {ke_p : Nat → Nat → Int32} (hG_x : Xo g qa E0 0 img_x) (hG_n : Mu g qa E0 1 men_n md_n day_n drw_n bu_n st_n ki_n we_n wo_n wr_n) (hG_p : Pa g qa E0 8 kn_p nx_p ke_p) {R : Int32} (hf : fX5_count p1 men_n md_n day_n st_n ki_n we_n wo_n wr_n kn_p = some R) : MI l yX5_count wsX5_count 5 D g qa E0 [.ref (qa 0), .int p1] R (fun E => E = E0) := by
  refine MI.mk (by decide) rfl (Nat.le_of_ble_eq_true rfl) ?_
  intro p e s m args below meth c ls Q X hret hP hS hl
  have hl : lv_has ls 2 [(0, .ref (qa 0)), (1, .int p1)] := hl
  rw [fX5_count] at hf
  refine lv_iload_n X.1 X.2.1 dX5_count_0 rfl (lv_at hl 1 rfl) ?_
  by_cases w1 : p1 = 0
  · have hf := ifp hf w1
    refine lv_tableIn (tgt := 48) X.1 X.2.1 dX5_count_1 (by rw [w1]; decide) (by rw [w1]; decide) (off := 47) (by rw [w1]; decide) (by decide) ?_
    refine lv_aload_n X.1 X.2.1 dX5_count_48 rfl (lv_at hl 0 rfl) ?_
    refine x_get X hP hG_x (by omega) rfl in_X5_count_X5 0 (by decide) (by decide +kernel) rfl rfl dX5_count_49 ?_
    refine x_get X hP hG_n.1 (by omega) rfl in_X5_count_X1 0 (by decide) (by decide +kernel) rfl rfl dX5_count_52 ?_
    obtain rfl := Option.some.inj hf
    exact hret _ _ _ _ _ _ dX5_count_55 rfl rfl (rfl) hP hS
  have hf := ifn hf w1
  by_cases w2 : p1 = 1
  · have hf := ifp hf w2
    refine lv_tableIn (tgt := 56) X.1 X.2.1 dX5_count_1 (by rw [w2]; decide) (by rw [w2]; decide) (off := 55) (by rw [w2]; decide) (by decide) ?_
    refine lv_aload_n X.1 X.2.1 dX5_count_56 rfl (lv_at hl 0 rfl) ?_
    refine x_get X hP hG_x (by omega) rfl in_X5_count_X5 0 (by decide) (by decide +kernel) rfl rfl dX5_count_57 ?_
    refine x_get X hP hG_n.1 (by omega) rfl in_X5_count_X1 3 (by decide) (by decide +kernel) rfl rfl dX5_count_60 ?_
    obtain rfl := Option.some.inj hf
    exact hret _ _ _ _ _ _ dX5_count_63 rfl rfl (rfl) hP hS
  have hf := ifn hf w2
  by_cases w3 : p1 = 2
  · have hf := ifp hf w3
    refine lv_tableIn (tgt := 64) X.1 X.2.1 dX5_count_1 (by rw [w3]; decide) (by rw [w3]; decide) (off := 63) (by rw [w3]; decide) (by decide) ?_
    refine lv_aload_n X.1 X.2.1 dX5_count_64 rfl (lv_at hl 0 rfl) ?_
    refine x_get X hP hG_x (by omega) rfl in_X5_count_X5 0 (by decide) (by decide +kernel) rfl rfl dX5_count_65 ?_
    refine x_get X hP hG_n.1 (by omega) rfl in_X5_count_X1 8 (by decide) (by decide +kernel) rfl rfl dX5_count_68 ?_
    obtain rfl := Option.some.inj hf
    exact hret _ _ _ _ _ _ dX5_count_71 rfl rfl (rfl) hP hS
  have hf := ifn hf w3
  by_cases w4 : p1 = 3
  · have hf := ifp hf w4
    refine lv_tableIn (tgt := 72) X.1 X.2.1 dX5_count_1 (by rw [w4]; decide) (by rw [w4]; decide) (off := 71) (by rw [w4]; decide) (by decide) ?_
    refine lv_aload_n X.1 X.2.1 dX5_count_72 rfl (lv_at hl 0 rfl) ?_
    refine x_get X hP hG_x (by omega) rfl in_X5_count_X5 0 (by decide) (by decide +kernel) rfl rfl dX5_count_73 ?_
    obtain ⟨r5, hr5, hf⟩ := bd_of hf
    refine x_rdVi X hP hS hG_n.1 (by omega) rfl (n := 0) (As := []) (ct_X1_allBent (by omega) hG_n hr5) gX5_count_X1_allBent rfl (by decide +kernel) ⟨by decide, by decide⟩ rfl hl.1 rfl (Nat.le_of_ble_eq_true rfl) dX5_count_76 (fun H locs hP hS => ?_)
    obtain rfl := Option.some.inj hf
    exact hret _ _ _ _ _ _ dX5_count_79 rfl rfl (rfl) hP hS
  have hf := ifn hf w4
  by_cases w6 : p1 = 4
  · have hf := ifp hf w6
    refine lv_tableIn (tgt := 80) X.1 X.2.1 dX5_count_1 (by rw [w6]; decide) (by rw [w6]; decide) (off := 79) (by rw [w6]; decide) (by decide) ?_
    refine lv_aload_n X.1 X.2.1 dX5_count_80 rfl (lv_at hl 0 rfl) ?_
    refine x_get X hP hG_x (by omega) rfl in_X5_count_X5 0 (by decide) (by decide +kernel) rfl rfl dX5_count_81 ?_
    refine lv_bipush (v := (-4)) X.1 X.2.1 dX5_count_84 (by decide) ?_
    obtain ⟨r7, hr7, hf⟩ := bd_of hf
    refine x_rdVi X hP hS hG_n.1 (by omega) rfl (n := 1) (As := [.int (-4)]) (ct_X1_wornBy (by omega) hG_n hr7) gX5_count_X1_wornBy rfl (by decide +kernel) ⟨by decide, by decide⟩ rfl hl.1 rfl (Nat.le_of_ble_eq_true rfl) dX5_count_86 (fun H locs hP hS => ?_)
    obtain rfl := Option.some.inj hf
    exact hret _ _ _ _ _ _ dX5_count_89 rfl rfl (rfl) hP hS
  have hf := ifn hf w6
  by_cases w8 : p1 = 5
  · have hf := ifp hf w8
    refine lv_tableIn (tgt := 90) X.1 X.2.1 dX5_count_1 (by rw [w8]; decide) (by rw [w8]; decide) (off := 89) (by rw [w8]; decide) (by decide) ?_
    refine lv_aload_n X.1 X.2.1 dX5_count_90 rfl (lv_at hl 0 rfl) ?_
    refine x_get X hP hG_x (by omega) rfl in_X5_count_X5 0 (by decide) (by decide +kernel) rfl rfl dX5_count_91 ?_
    obtain ⟨r9, hr9, hf⟩ := bd_of hf
    refine x_rdVi X hP hS hG_n.1 (by omega) rfl (n := 0) (As := []) (ct_X1_allStrength (by omega) hG_n hr9) gX5_count_X1_allStrength rfl (by decide +kernel) ⟨by decide, by decide⟩ rfl hl.1 rfl (Nat.le_of_ble_eq_true rfl) dX5_count_94 (fun H locs hP hS => ?_)
    obtain rfl := Option.some.inj hf
    exact hret _ _ _ _ _ _ dX5_count_97 rfl rfl (rfl) hP hS
  have hf := ifn hf w8
  by_cases w10 : p1 = 6
  · have hf := ifp hf w10
    refine lv_tableIn (tgt := 98) X.1 X.2.1 dX5_count_1 (by rw [w10]; decide) (by rw [w10]; decide) (off := 97) (by rw [w10]; decide) (by decide) ?_
    refine lv_aload_n X.1 X.2.1 dX5_count_98 rfl (lv_at hl 0 rfl) ?_
    refine x_get X hP hG_x (by omega) rfl in_X5_count_X5 0 (by decide) (by decide +kernel) rfl rfl dX5_count_99 ?_
    obtain ⟨r11, hr11, hf⟩ := bd_of hf
    refine x_rdVi X hP hS hG_n.1 (by omega) rfl (n := 0) (As := []) (ct_X1_allLoads (by omega) hG_n hr11) gX5_count_X1_allLoads rfl (by decide +kernel) ⟨by decide, by decide⟩ rfl hl.1 rfl (Nat.le_of_ble_eq_true rfl) dX5_count_102 (fun H locs hP hS => ?_)
    obtain rfl := Option.some.inj hf
    exact hret _ _ _ _ _ _ dX5_count_105 rfl rfl (rfl) hP hS
  have hf := ifn hf w10
  by_cases w12 : p1 = 7
  · have hf := ifp hf w12
    refine lv_tableIn (tgt := 106) X.1 X.2.1 dX5_count_1 (by rw [w12]; decide) (by rw [w12]; decide) (off := 105) (by rw [w12]; decide) (by decide) ?_
    refine lv_aload_n X.1 X.2.1 dX5_count_106 rfl (lv_at hl 0 rfl) ?_
    refine x_get X hP hG_x (by omega) rfl in_X5_count_X5 1 (by decide) (by decide +kernel) rfl rfl dX5_count_107 ?_
    refine x_get X hP hG_p.1 (by omega) rfl in_X5_count_X2 1 (by decide) (by decide +kernel) rfl rfl dX5_count_110 ?_
    obtain rfl := Option.some.inj hf
    exact hret _ _ _ _ _ _ dX5_count_113 rfl rfl (rfl) hP hS
  have hf := ifn hf w12
  refine lv_tableOut (tgt := 114) X.1 X.2.1 dX5_count_1 (by have := i_ne 0 (0) (by decide) w1; have := i_ne 1 (1) (by decide) w2; have := i_ne 2 (2) (by decide) w3; have := i_ne 3 (3) (by decide) w4; have := i_ne 4 (4) (by decide) w6; have := i_ne 5 (5) (by decide) w8; have := i_ne 6 (6) (by decide) w10; have := i_ne 7 (7) (by decide) w12; omega) (by decide) ?_
  refine lv_iconst (v := (-1)) X.1 X.2.1 dX5_count_114 (by decide) ?_
  obtain rfl := Option.some.inj hf
  exact hret _ _ _ _ _ _ dX5_count_115 rfl rfl (rfl) hP hS
def bX5_passDays_33 (men_n : Int32) (md_n : Int32) (bu_n : Nat → Int32) (ki_n : Nat → Int32) (we_n : Nat → Int32) (wo_n : Nat → Int32) (p1 : Int32) (p2 : Int32) (K4 : ((Int32 × Int32 × Int32 × (Nat → Int32) × (Nat → Int32) × Int32 × Int32 × (Nat → Nat → Int32))) → Option (Int32 × Int32 × Int32 × (Nat → Int32) × (Nat → Int32) × Int32 × Int32 × (Nat → Nat → Int32))) : ((Int32 × Int32 × Int32 × (Nat → Int32) × (Nat → Int32) × Int32 × Int32 × (Nat → Nat → Int32))) → Option (Int32 × Int32 × Int32 × (Nat → Int32) × (Nat → Int32) × Int32 × Int32 × (Nat → Nat → Int32))
  | (v3_4, day_n_4, drw_n_4, st_n_4, wr_n_4, kn_p_4, nx_p_4, ke_p_4) => if p1 ≤ v3_4 then ((fX1_allBent men_n md_n day_n_4 st_n_4 ki_n we_n wo_n wr_n_4).bind (fun r6 => some (r6, day_n_4, drw_n_4, st_n_4, wr_n_4, kn_p_4, nx_p_4, ke_p_4))) else ((fX2_keep kn_p_4 nx_p_4 ke_p_4 day_n_4 drw_n_4 st_n_4 we_n wr_n_4).bind (fun r7 => if p2 = 0 then ((fX1_passDay men_n md_n day_n_4 bu_n st_n_4 ki_n we_n wo_n wr_n_4).bind (fun r9 => nm (v3_4 + 1) (fun x10 => K4 (x10, r9.1, drw_n_4, r9.2, wr_n_4, r7.1, r7.2.1, r7.2.2)))) else ((fX1_drawAndHang men_n md_n drw_n_4 wr_n_4).bind (fun r11 => (fX1_passDay men_n md_n day_n_4 bu_n st_n_4 ki_n we_n wo_n r11.2).bind (fun r12 => nm (v3_4 + 1) (fun x13 => K4 (x13, r12.1, r11.1, r12.2, r11.2, r7.1, r7.2.1, r7.2.2)))))))
def fX5_passDays (p1 : Int32) (p2 : Int32)  (men_n : Int32) (md_n : Int32) (day_n : Int32) (drw_n : Int32) (bu_n : Nat → Int32) (st_n : Nat → Int32) (ki_n : Nat → Int32) (we_n : Nat → Int32) (wo_n : Nat → Int32) (wr_n : Nat → Int32) (kn_p : Int32) (nx_p : Int32) (ke_p : Nat → Nat → Int32) : Option (Int32 × Int32 × Int32 × (Nat → Int32) × (Nat → Int32) × Int32 × Int32 × (Nat → Nat → Int32)) := if p1 < 1 then (some ((-1), day_n, drw_n, st_n, wr_n, kn_p, nx_p, ke_p)) else (if p1 ≤ 40 then (if (day_n + p1) ≤ 9999 then (lp (bX5_passDays_33 men_n md_n bu_n ki_n we_n wo_n p1 p2) FU (0, day_n, drw_n, st_n, wr_n, kn_p, nx_p, ke_p)) else (some ((-3), day_n, drw_n, st_n, wr_n, kn_p, nx_p, ke_p))) else (some ((-1), day_n, drw_n, st_n, wr_n, kn_p, nx_p, ke_p)))
theorem in_X5_passDays_X1 : ∀ w ∈ wsX10, w ∈ wsX5_passDays := by decide +kernel
theorem in_X5_passDays_X5 : ∀ w ∈ wsX50, w ∈ wsX5_passDays := by decide +kernel
set_option maxHeartbeats 4000000 in
set_option maxRecDepth 100000 in
theorem ct_X5_passDays {l : Launch} {D : va_G} {g : Nat → ClassId} {qa : Nat → Nat} {E0 : Nat → va_E} {p1 : Int32} {p2 : Int32} {img_x : Int32} {men_n : Int32} {md_n : Int32} {day_n : Int32} {drw_n : Int32} {bu_n : Nat → Int32} {st_n : Nat → Int32} {ki_n : Nat → Int32} {we_n : Nat → Int32} {wo_n : Nat → Int32} {wr_n : Nat → Int32} {kn_p : Int32} {nx_p : Int32} {ke_p : Nat → Nat → Int32} (hG_x : Xo g qa E0 0 img_x) (hG_n : Mu g qa E0 1 men_n md_n day_n drw_n bu_n st_n ki_n we_n wo_n wr_n) (hG_p : Pa g qa E0 8 kn_p nx_p ke_p) {R : (Int32 × Int32 × Int32 × (Nat → Int32) × (Nat → Int32) × Int32 × Int32 × (Nat → Nat → Int32))} (hf : fX5_passDays p1 p2 men_n md_n day_n drw_n bu_n st_n ki_n we_n wo_n wr_n kn_p nx_p ke_p = some R) : MI l yX5_passDays wsX5_passDays 5 D g qa E0 [.ref (qa 0), .int p1, .int p2] R.1 (fun E => Mu g qa E 1 men_n md_n R.2.1 R.2.2.1 bu_n R.2.2.2.1 ki_n we_n wo_n R.2.2.2.2.1 ∧ Pa g qa E 8 R.2.2.2.2.2.1 R.2.2.2.2.2.2.1 R.2.2.2.2.2.2.2 ∧ ∀ j, (j < 1 ∨ 8 ≤ j) → (j < 8 ∨ 18 ≤ j) → E j = E0 j) := by
  refine MI.mk (by decide) rfl (Nat.le_of_ble_eq_true rfl) ?_
  intro p e s m args below meth c ls Q X hret hP hS hl
  have hl : lv_has ls 4 [(0, .ref (qa 0)), (1, .int p1), (2, .int p2)] := hl
  have hfr : ∀ j, (j < 1 ∨ 8 ≤ j) → (j < 8 ∨ 18 ≤ j) → E0 j = E0 j := fun _ _ _ => rfl
  rw [fX5_passDays] at hf
  refine lv_iload_n X.1 X.2.1 dX5_passDays_0 rfl (lv_at hl 1 rfl) ?_
  refine lv_iconst (v := 1) X.1 X.2.1 dX5_passDays_1 (by decide) ?_
  refine lv_icmp_lt (tgt := 11) X.1 X.2.1 dX5_passDays_2 (by decide) (fun c1 => ?_) (fun c1 => ?_)
  · have hf := ifp hf c1
    refine lv_iconst (v := (-1)) X.1 X.2.1 dX5_passDays_11 (by decide) ?_
    obtain rfl := Option.some.inj hf
    exact hret _ _ _ _ _ _ dX5_passDays_12 rfl rfl (⟨hG_n, hG_p, hfr⟩) hP hS
  · have hf := ifn hf c1
    refine lv_iload_n X.1 X.2.1 dX5_passDays_5 rfl (lv_at hl 1 rfl) ?_
    refine lv_bipush (v := 40) X.1 X.2.1 dX5_passDays_6 (by decide) ?_
    refine lv_icmp_le (tgt := 13) X.1 X.2.1 dX5_passDays_8 (by decide) (fun c2 => ?_) (fun c2 => ?_)
    · have hf := ifp hf c2
      refine lv_aload_n X.1 X.2.1 dX5_passDays_13 rfl (lv_at hl 0 rfl) ?_
      refine x_get X hP hG_x (by omega) rfl in_X5_passDays_X5 0 (by decide) (by decide +kernel) rfl rfl dX5_passDays_14 ?_
      refine x_get X hP hG_n.1 (by omega) rfl in_X5_passDays_X1 8 (by decide) (by decide +kernel) rfl rfl dX5_passDays_17 ?_
      refine lv_iload_n X.1 X.2.1 dX5_passDays_20 rfl (lv_at hl 1 rfl) ?_
      refine lv_iadd X.1 X.2.1 dX5_passDays_21 ?_
      refine lv_sipush (v := 9999) X.1 X.2.1 dX5_passDays_22 (by decide) ?_
      refine lv_icmp_le (tgt := 31) X.1 X.2.1 dX5_passDays_25 (by decide) (fun c3 => ?_) (fun c3 => ?_)
      · have hf := ifp hf c3
        refine lv_iconst (v := 0) X.1 X.2.1 dX5_passDays_31 (by decide) ?_
        refine lv_istore_n (lv' := [(3, .int 0), (0, .ref (qa 0)), (1, .int p1), (2, .int p2)]) X.1 X.2.1 dX5_passDays_32 rfl hl (by decide) rfl (fun ls hl => ?_)
        have lp4 : ∀ (n4 : Nat) (v3_4 : Int32) (day_n_4 : Int32) (drw_n_4 : Int32) (st_n_4 : Nat → Int32) (wr_n_4 : Nat → Int32) (kn_p_4 : Int32) (nx_p_4 : Int32) (ke_p_4 : Nat → Nat → Int32) (E : Nat → va_E) (H : Heap) (locs : List Loc) (ls : Array Slot), lp (bX5_passDays_33 men_n md_n bu_n ki_n we_n wo_n p1 p2) n4 (v3_4, day_n_4, drw_n_4, st_n_4, wr_n_4, kn_p_4, nx_p_4, ke_p_4) = some R → va_P D vwCl (WD qa E) H → va_S (gA qa s.heap.size) s.heap H locs → Xo g qa E 0 img_x → Mu g qa E 1 men_n md_n day_n_4 drw_n_4 bu_n st_n_4 ki_n we_n wo_n wr_n_4 → Pa g qa E 8 kn_p_4 nx_p_4 ke_p_4 → (∀ j, (j < 1 ∨ 8 ≤ j) → (j < 8 ∨ 18 ≤ j) → E j = E0 j) → lv_has ls 4 [(0, .ref (qa 0)), (1, .int p1), (2, .int p2), (3, .int v3_4)] → W p l e (rmf 5) s m args below meth c H locs 0 0 Q (F0 m 33 ls []) := by
          intro n4
          induction n4 with
          | zero =>
            intro v3_4 day_n_4 drw_n_4 st_n_4 wr_n_4 kn_p_4 nx_p_4 ke_p_4 E H locs ls hf
            exact absurd hf (by intro h; cases h)
          | succ n4 ih4 =>
            intro v3_4 day_n_4 drw_n_4 st_n_4 wr_n_4 kn_p_4 nx_p_4 ke_p_4 E H locs ls hf hP hS hG_x hG_n hG_p hfr hl
            have hf : bX5_passDays_33 men_n md_n bu_n ki_n we_n wo_n p1 p2 (lp (bX5_passDays_33 men_n md_n bu_n ki_n we_n wo_n p1 p2) n4) (v3_4, day_n_4, drw_n_4, st_n_4, wr_n_4, kn_p_4, nx_p_4, ke_p_4) = some R := hf
            rw [bX5_passDays_33] at hf
            refine lv_iload_n X.1 X.2.1 dX5_passDays_33 rfl (lv_at hl 3 rfl) ?_
            refine lv_iload_n X.1 X.2.1 dX5_passDays_34 rfl (lv_at hl 1 rfl) ?_
            refine lv_icmp_ge (tgt := 73) X.1 X.2.1 dX5_passDays_35 (by decide) (fun c5 => ?_) (fun c5 => ?_)
            · have hf := ifp hf c5
              refine lv_aload_n X.1 X.2.1 dX5_passDays_73 rfl (lv_at hl 0 rfl) ?_
              refine x_get X hP hG_x (by omega) rfl in_X5_passDays_X5 0 (by decide) (by decide +kernel) rfl rfl dX5_passDays_74 ?_
              obtain ⟨r6, hr6, hf⟩ := bd_of hf
              refine x_rdVi X hP hS hG_n.1 (by omega) rfl (n := 0) (As := []) (ct_X1_allBent (by omega) hG_n hr6) gX5_passDays_X1_allBent rfl (by decide +kernel) ⟨by decide, by decide⟩ rfl hl.1 rfl (Nat.le_of_ble_eq_true rfl) dX5_passDays_77 (fun H locs hP hS => ?_)
              obtain rfl := Option.some.inj hf
              exact hret _ _ _ _ _ _ dX5_passDays_80 rfl rfl (⟨hG_n, hG_p, hfr⟩) hP hS
            · have hf := ifn hf c5
              refine lv_aload_n X.1 X.2.1 dX5_passDays_38 rfl (lv_at hl 0 rfl) ?_
              refine x_get X hP hG_x (by omega) rfl in_X5_passDays_X5 1 (by decide) (by decide +kernel) rfl rfl dX5_passDays_39 ?_
              refine lv_aload_n X.1 X.2.1 dX5_passDays_42 rfl (lv_at hl 0 rfl) ?_
              refine x_get X hP hG_x (by omega) rfl in_X5_passDays_X5 0 (by decide) (by decide +kernel) rfl rfl dX5_passDays_43 ?_
              obtain ⟨r7, hr7, hf⟩ := bd_of hf
              refine x_callVv X hP hS hG_p.1 (by omega) rfl (n := 1) (As := [.ref (qa 1)]) (ct_X2_keep hG_p hG_n hr7) gX5_passDays_X2_keep rfl (by decide +kernel) ⟨by decide, by decide⟩ rfl hl.1 rfl (Nat.le_of_ble_eq_true rfl) dX5_passDays_46 (fun E H locs hp hP hS => ?_)
              obtain ⟨hW_p, hk⟩ := hp
              have hG_p := hW_p
              have hG_x := Xo_kept hG_x (fun j h8 h9 => hk j (by omega))
              have hG_n := Mu_kept hG_n (fun j h8 h9 => hk j (by omega))
              have hfr : ∀ j, (j < 1 ∨ 8 ≤ j) → (j < 8 ∨ 18 ≤ j) → E j = E0 j := fun j o0 o1 => (hk j (by omega)).trans (hfr j o0 o1)
              refine lv_iload_n X.1 X.2.1 dX5_passDays_49 rfl (lv_at hl 2 rfl) ?_
              refine lv_if_eq (tgt := 60) X.1 X.2.1 dX5_passDays_50 (by decide) (fun c8 => ?_) (fun c8 => ?_)
              · have hf := ifp hf c8
                refine lv_aload_n X.1 X.2.1 dX5_passDays_60 rfl (lv_at hl 0 rfl) ?_
                refine x_get X hP hG_x (by omega) rfl in_X5_passDays_X5 0 (by decide) (by decide +kernel) rfl rfl dX5_passDays_61 ?_
                obtain ⟨r9, hr9, hf⟩ := bd_of hf
                refine x_callVv X hP hS hG_n.1 (by omega) rfl (n := 0) (As := []) (ct_X1_passDay (by omega) hG_n hr9) gX5_passDays_X1_passDay rfl (by decide +kernel) ⟨by decide, by decide⟩ rfl hl.1 rfl (Nat.le_of_ble_eq_true rfl) dX5_passDays_64 (fun E H locs hp hP hS => ?_)
                obtain ⟨hW_n, hk⟩ := hp
                have hG_n := hW_n
                have hG_x := Xo_kept hG_x (fun j h8 h9 => hk j (by omega))
                have hG_p := Pa_kept hG_p (fun j h8 h9 => hk j (by omega))
                have hfr : ∀ j, (j < 1 ∨ 8 ≤ j) → (j < 8 ∨ 18 ≤ j) → E j = E0 j := fun j o0 o1 => (hk j (by omega)).trans (hfr j o0 o1)
                obtain ⟨x10, ex10, hf⟩ := nm_of hf
                refine lv_iinc (v := x10) (lv' := [(3, .int x10), (0, .ref (qa 0)), (1, .int p1), (2, .int p2)]) X.1 X.2.1 dX5_passDays_67 hl (k := 3) rfl (by rw [ex10]; rfl) (by decide) rfl (fun ls hl => ?_)
                refine lv_goto (tgt := 33) X.1 X.2.1 dX5_passDays_70 (by decide) ?_
                exact ih4 x10 r9.1 drw_n_4 r9.2 wr_n_4 r7.1 r7.2.1 r7.2.2 _ _ _ _ hf hP hS hG_x hG_n hG_p hfr (lv_sub hl [1, 2, 3, 0] rfl)
              · have hf := ifn hf c8
                refine lv_aload_n X.1 X.2.1 dX5_passDays_53 rfl (lv_at hl 0 rfl) ?_
                refine x_get X hP hG_x (by omega) rfl in_X5_passDays_X5 0 (by decide) (by decide +kernel) rfl rfl dX5_passDays_54 ?_
                obtain ⟨r11, hr11, hf⟩ := bd_of hf
                refine x_callVv X hP hS hG_n.1 (by omega) rfl (n := 0) (As := []) (ct_X1_drawAndHang (by omega) hG_n hr11) gX5_passDays_X1_drawAndHang rfl (by decide +kernel) ⟨by decide, by decide⟩ rfl hl.1 rfl (Nat.le_of_ble_eq_true rfl) dX5_passDays_57 (fun E H locs hp hP hS => ?_)
                obtain ⟨hW_n, hk⟩ := hp
                have hG_n := hW_n
                have hG_x := Xo_kept hG_x (fun j h8 h9 => hk j (by omega))
                have hG_p := Pa_kept hG_p (fun j h8 h9 => hk j (by omega))
                have hfr : ∀ j, (j < 1 ∨ 8 ≤ j) → (j < 8 ∨ 18 ≤ j) → E j = E0 j := fun j o0 o1 => (hk j (by omega)).trans (hfr j o0 o1)
                refine lv_aload_n X.1 X.2.1 dX5_passDays_60 rfl (lv_at hl 0 rfl) ?_
                refine x_get X hP hG_x (by omega) rfl in_X5_passDays_X5 0 (by decide) (by decide +kernel) rfl rfl dX5_passDays_61 ?_
                obtain ⟨r12, hr12, hf⟩ := bd_of hf
                refine x_callVv X hP hS hG_n.1 (by omega) rfl (n := 0) (As := []) (ct_X1_passDay (by omega) hG_n hr12) gX5_passDays_X1_passDay rfl (by decide +kernel) ⟨by decide, by decide⟩ rfl hl.1 rfl (Nat.le_of_ble_eq_true rfl) dX5_passDays_64 (fun E H locs hp hP hS => ?_)
                obtain ⟨hW_n, hk⟩ := hp
                have hG_n := hW_n
                have hG_x := Xo_kept hG_x (fun j h8 h9 => hk j (by omega))
                have hG_p := Pa_kept hG_p (fun j h8 h9 => hk j (by omega))
                have hfr : ∀ j, (j < 1 ∨ 8 ≤ j) → (j < 8 ∨ 18 ≤ j) → E j = E0 j := fun j o0 o1 => (hk j (by omega)).trans (hfr j o0 o1)
                obtain ⟨x13, ex13, hf⟩ := nm_of hf
                refine lv_iinc (v := x13) (lv' := [(3, .int x13), (0, .ref (qa 0)), (1, .int p1), (2, .int p2)]) X.1 X.2.1 dX5_passDays_67 hl (k := 3) rfl (by rw [ex13]; rfl) (by decide) rfl (fun ls hl => ?_)
                refine lv_goto (tgt := 33) X.1 X.2.1 dX5_passDays_70 (by decide) ?_
                exact ih4 x13 r12.1 r11.1 r12.2 r11.2 r7.1 r7.2.1 r7.2.2 _ _ _ _ hf hP hS hG_x hG_n hG_p hfr (lv_sub hl [1, 2, 3, 0] rfl)
        exact lp4 FU 0 day_n drw_n st_n wr_n kn_p nx_p ke_p _ _ _ _ hf hP hS hG_x hG_n hG_p hfr (lv_sub hl [1, 2, 3, 0] rfl)
      · have hf := ifn hf c3
        refine lv_bipush (v := (-3)) X.1 X.2.1 dX5_passDays_28 (by decide) ?_
        obtain rfl := Option.some.inj hf
        exact hret _ _ _ _ _ _ dX5_passDays_30 rfl rfl (⟨hG_n, hG_p, hfr⟩) hP hS
    · have hf := ifn hf c2
      refine lv_iconst (v := (-1)) X.1 X.2.1 dX5_passDays_11 (by decide) ?_
      obtain rfl := Option.some.inj hf
      exact hret _ _ _ _ _ _ dX5_passDays_12 rfl rfl (⟨hG_n, hG_p, hfr⟩) hP hS
def fX5_days (p1 : Int32)  (men_n : Int32) (md_n : Int32) (day_n : Int32) (drw_n : Int32) (bu_n : Nat → Int32) (st_n : Nat → Int32) (ki_n : Nat → Int32) (we_n : Nat → Int32) (wo_n : Nat → Int32) (wr_n : Nat → Int32) (kn_p : Int32) (nx_p : Int32) (ke_p : Nat → Nat → Int32) : Option (Int32 × Int32 × Int32 × (Nat → Int32) × (Nat → Int32) × Int32 × Int32 × (Nat → Nat → Int32)) := (fX5_passDays p1 0 men_n md_n day_n drw_n bu_n st_n ki_n we_n wo_n wr_n kn_p nx_p ke_p).bind (fun r1 => some (r1.1, r1.2.1, r1.2.2.1, r1.2.2.2.1, r1.2.2.2.2.1, r1.2.2.2.2.2.1, r1.2.2.2.2.2.2.1, r1.2.2.2.2.2.2.2))
theorem in_X5_days_X1 : ∀ w ∈ wsX10, w ∈ wsX5_days := by decide +kernel
theorem in_X5_days_X5 : ∀ w ∈ wsX50, w ∈ wsX5_days := by decide +kernel
set_option maxHeartbeats 4000000 in
set_option maxRecDepth 100000 in
theorem ct_X5_days {l : Launch} {D : va_G} {g : Nat → ClassId} {qa : Nat → Nat} {E0 : Nat → va_E} {p1 : Int32} {img_x : Int32} {men_n : Int32} {md_n : Int32} {day_n : Int32} {drw_n : Int32} {bu_n : Nat → Int32} {st_n : Nat → Int32} {ki_n : Nat → Int32} {we_n : Nat → Int32} {wo_n : Nat → Int32} {wr_n : Nat → Int32} {kn_p : Int32} {nx_p : Int32} {ke_p : Nat → Nat → Int32} (hG_x : Xo g qa E0 0 img_x) (hG_n : Mu g qa E0 1 men_n md_n day_n drw_n bu_n st_n ki_n we_n wo_n wr_n) (hG_p : Pa g qa E0 8 kn_p nx_p ke_p) {R : (Int32 × Int32 × Int32 × (Nat → Int32) × (Nat → Int32) × Int32 × Int32 × (Nat → Nat → Int32))} (hf : fX5_days p1 men_n md_n day_n drw_n bu_n st_n ki_n we_n wo_n wr_n kn_p nx_p ke_p = some R) : MI l yX5_days wsX5_days 6 D g qa E0 [.ref (qa 0), .int p1] R.1 (fun E => Mu g qa E 1 men_n md_n R.2.1 R.2.2.1 bu_n R.2.2.2.1 ki_n we_n wo_n R.2.2.2.2.1 ∧ Pa g qa E 8 R.2.2.2.2.2.1 R.2.2.2.2.2.2.1 R.2.2.2.2.2.2.2 ∧ ∀ j, (j < 1 ∨ 8 ≤ j) → (j < 8 ∨ 18 ≤ j) → E j = E0 j) := by
  refine MI.mk (by decide) rfl (Nat.le_of_ble_eq_true rfl) ?_
  intro p e s m args below meth c ls Q X hret hP hS hl
  have hl : lv_has ls 2 [(0, .ref (qa 0)), (1, .int p1)] := hl
  have hfr : ∀ j, (j < 1 ∨ 8 ≤ j) → (j < 8 ∨ 18 ≤ j) → E0 j = E0 j := fun _ _ _ => rfl
  rw [fX5_days] at hf
  refine lv_aload_n X.1 X.2.1 dX5_days_0 rfl (lv_at hl 0 rfl) ?_
  refine lv_iload_n X.1 X.2.1 dX5_days_1 rfl (lv_at hl 1 rfl) ?_
  refine lv_iconst (v := 0) X.1 X.2.1 dX5_days_2 (by decide) ?_
  obtain ⟨r1, hr1, hf⟩ := bd_of hf
  refine x_callVi X hP hS hG_x (by omega) rfl (n := 2) (As := [.int p1, .int 0]) (ct_X5_passDays hG_x hG_n hG_p hr1) gX5_days_X5_passDays rfl (by decide +kernel) ⟨by decide, by decide⟩ rfl hl.1 rfl (Nat.le_of_ble_eq_true rfl) dX5_days_3 (fun E H locs hp hP hS => ?_)
  obtain ⟨hW_n, hW_p, hk⟩ := hp
  have hG_n := hW_n
  have hG_p := hW_p
  have hG_x := Xo_kept hG_x (fun j h8 h9 => hk j (by omega) (by omega))
  have hfr : ∀ j, (j < 1 ∨ 8 ≤ j) → (j < 8 ∨ 18 ≤ j) → E j = E0 j := fun j o0 o1 => (hk j (by omega) (by omega)).trans (hfr j o0 o1)
  obtain rfl := Option.some.inj hf
  exact hret _ _ _ _ _ _ dX5_days_6 rfl rfl (⟨hG_n, hG_p, hfr⟩) hP hS
def bX5_done_25 (md_n : Int32) (day_n : Int32) (bu_n : Nat → Int32) (ki_n : Nat → Int32) (we_n : Nat → Int32) (wo_n : Nat → Int32) (wr_n : Nat → Int32) (p1 : Int32) (K5 : ((Int32 × Int32)) → Option Int32) : ((Int32 × Int32)) → Option Int32
  | (v2_5, v3_5) => if 60 < v3_5 then (some (-4)) else (if v2_5 = 0 then (some v3_5) else ((fX1_strengthAfter p1 v2_5 (day_n + v3_5) md_n bu_n ki_n we_n wo_n wr_n).bind (fun r8 => nm (v3_5 + 1) (fun x9 => K5 (r8, x9)))))
def fX5_done (p1 : Int32)  (men_n : Int32) (md_n : Int32) (day_n : Int32) (bu_n : Nat → Int32) (st_n : Nat → Int32) (ki_n : Nat → Int32) (we_n : Nat → Int32) (wo_n : Nat → Int32) (wr_n : Nat → Int32) : Option Int32 := (fX1_hasMan p1 men_n).bind (fun r1 => if r1 = 0 then (some (-1)) else (gin p1 5 (nm (st_n (Int32.toNatClampNeg p1)) (fun x4 => lp (bX5_done_25 md_n day_n bu_n ki_n we_n wo_n wr_n p1) FU (x4, 0)))))
theorem in_X5_done_X1 : ∀ w ∈ wsX10, w ∈ wsX5_done := by decide +kernel
theorem in_X5_done_X5 : ∀ w ∈ wsX50, w ∈ wsX5_done := by decide +kernel
set_option maxHeartbeats 4000000 in
set_option maxRecDepth 100000 in
theorem ct_X5_done {l : Launch} {D : va_G} {g : Nat → ClassId} {qa : Nat → Nat} {E0 : Nat → va_E} {p1 : Int32} {img_x : Int32} {men_n : Int32} {md_n : Int32} {day_n : Int32} {drw_n : Int32} {bu_n : Nat → Int32} {st_n : Nat → Int32} {ki_n : Nat → Int32} {we_n : Nat → Int32} {wo_n : Nat → Int32} {wr_n : Nat → Int32} (hG_x : Xo g qa E0 0 img_x) (hG_n : Mu g qa E0 1 men_n md_n day_n drw_n bu_n st_n ki_n we_n wo_n wr_n) {R : Int32} (hf : fX5_done p1 men_n md_n day_n bu_n st_n ki_n we_n wo_n wr_n = some R) : MI l yX5_done wsX5_done 4 D g qa E0 [.ref (qa 0), .int p1] R (fun E => E = E0) := by
  refine MI.mk (by decide) rfl (Nat.le_of_ble_eq_true rfl) ?_
  intro p e s m args below meth c ls Q X hret hP hS hl
  have hl : lv_has ls 4 [(0, .ref (qa 0)), (1, .int p1)] := hl
  rw [fX5_done] at hf
  refine lv_aload_n X.1 X.2.1 dX5_done_0 rfl (lv_at hl 0 rfl) ?_
  refine x_get X hP hG_x (by omega) rfl in_X5_done_X5 0 (by decide) (by decide +kernel) rfl rfl dX5_done_1 ?_
  refine lv_iload_n X.1 X.2.1 dX5_done_4 rfl (lv_at hl 1 rfl) ?_
  obtain ⟨r1, hr1, hf⟩ := bd_of hf
  refine x_rdVi X hP hS hG_n.1 (by omega) rfl (n := 1) (As := [.int p1]) (ct_X1_hasMan (by omega) hG_n hr1) gX5_done_X1_hasMan rfl (by decide +kernel) ⟨by decide, by decide⟩ rfl hl.1 rfl (Nat.le_of_ble_eq_true rfl) dX5_done_5 (fun H locs hP hS => ?_)
  refine lv_if_ne (tgt := 13) X.1 X.2.1 dX5_done_8 (by decide) (fun c2 => ?_) (fun c2 => ?_)
  · have hf := ifn hf c2
    refine lv_aload_n X.1 X.2.1 dX5_done_13 rfl (lv_at hl 0 rfl) ?_
    refine x_get X hP hG_x (by omega) rfl in_X5_done_X5 0 (by decide) (by decide +kernel) rfl rfl dX5_done_14 ?_
    refine x_get X hP hG_n.1 (by omega) rfl in_X5_done_X1 2 (by decide) (by decide +kernel) rfl rfl dX5_done_17 ?_
    refine lv_iload_n X.1 X.2.1 dX5_done_20 rfl (lv_at hl 1 rfl) ?_
    obtain ⟨hi3, hf⟩ := gin_of hf
    refine x_iald X hP hG_n.2.2.1 (by omega) hi3 dX5_done_21 ?_
    obtain ⟨x4, ex4, hf⟩ := nm_of hf
    refine lv_top_as ex4 ?_
    refine lv_istore_n (lv' := [(2, .int x4), (0, .ref (qa 0)), (1, .int p1)]) X.1 X.2.1 dX5_done_22 rfl hl (by decide) rfl (fun ls hl => ?_)
    refine lv_iconst (v := 0) X.1 X.2.1 dX5_done_23 (by decide) ?_
    refine lv_istore_n (lv' := [(3, .int 0), (2, .int x4), (0, .ref (qa 0)), (1, .int p1)]) X.1 X.2.1 dX5_done_24 rfl hl (by decide) rfl (fun ls hl => ?_)
    have lp5 : ∀ (n5 : Nat) (v2_5 : Int32) (v3_5 : Int32) (H : Heap) (locs : List Loc) (ls : Array Slot), lp (bX5_done_25 md_n day_n bu_n ki_n we_n wo_n wr_n p1) n5 (v2_5, v3_5) = some R → va_P D vwCl (WD qa E0) H → va_S (gA qa s.heap.size) s.heap H locs → lv_has ls 4 [(0, .ref (qa 0)), (1, .int p1), (2, .int v2_5), (3, .int v3_5)] → W p l e (rmf 4) s m args below meth c H locs 0 0 Q (F0 m 25 ls []) := by
      intro n5
      induction n5 with
      | zero =>
        intro v2_5 v3_5 H locs ls hf
        exact absurd hf (by intro h; cases h)
      | succ n5 ih5 =>
        intro v2_5 v3_5 H locs ls hf hP hS hl
        have hf : bX5_done_25 md_n day_n bu_n ki_n we_n wo_n wr_n p1 (lp (bX5_done_25 md_n day_n bu_n ki_n we_n wo_n wr_n p1) n5) (v2_5, v3_5) = some R := hf
        rw [bX5_done_25] at hf
        refine lv_iload_n X.1 X.2.1 dX5_done_25 rfl (lv_at hl 3 rfl) ?_
        refine lv_bipush (v := 60) X.1 X.2.1 dX5_done_26 (by decide) ?_
        refine lv_icmp_gt (tgt := 62) X.1 X.2.1 dX5_done_28 (by decide) (fun c6 => ?_) (fun c6 => ?_)
        · have hf := ifp hf c6
          refine lv_bipush (v := (-4)) X.1 X.2.1 dX5_done_62 (by decide) ?_
          obtain rfl := Option.some.inj hf
          exact hret _ _ _ _ _ _ dX5_done_64 rfl rfl (rfl) hP hS
        · have hf := ifn hf c6
          refine lv_iload_n X.1 X.2.1 dX5_done_31 rfl (lv_at hl 2 rfl) ?_
          refine lv_if_ne (tgt := 37) X.1 X.2.1 dX5_done_32 (by decide) (fun c7 => ?_) (fun c7 => ?_)
          · have hf := ifn hf c7
            refine lv_aload_n X.1 X.2.1 dX5_done_37 rfl (lv_at hl 0 rfl) ?_
            refine x_get X hP hG_x (by omega) rfl in_X5_done_X5 0 (by decide) (by decide +kernel) rfl rfl dX5_done_38 ?_
            refine lv_iload_n X.1 X.2.1 dX5_done_41 rfl (lv_at hl 1 rfl) ?_
            refine lv_iload_n X.1 X.2.1 dX5_done_42 rfl (lv_at hl 2 rfl) ?_
            refine lv_aload_n X.1 X.2.1 dX5_done_43 rfl (lv_at hl 0 rfl) ?_
            refine x_get X hP hG_x (by omega) rfl in_X5_done_X5 0 (by decide) (by decide +kernel) rfl rfl dX5_done_44 ?_
            refine x_get X hP hG_n.1 (by omega) rfl in_X5_done_X1 8 (by decide) (by decide +kernel) rfl rfl dX5_done_47 ?_
            refine lv_iload_n X.1 X.2.1 dX5_done_50 rfl (lv_at hl 3 rfl) ?_
            refine lv_iadd X.1 X.2.1 dX5_done_51 ?_
            obtain ⟨r8, hr8, hf⟩ := bd_of hf
            refine x_rdVi X hP hS hG_n.1 (by omega) rfl (n := 3) (As := [.int p1, .int v2_5, .int (day_n + v3_5)]) (ct_X1_strengthAfter (by omega) hG_n hr8) gX5_done_X1_strengthAfter rfl (by decide +kernel) ⟨by decide, by decide⟩ rfl hl.1 rfl (Nat.le_of_ble_eq_true rfl) dX5_done_52 (fun H locs hP hS => ?_)
            refine lv_istore_n (lv' := [(2, .int r8), (0, .ref (qa 0)), (1, .int p1), (3, .int v3_5)]) X.1 X.2.1 dX5_done_55 rfl hl (by decide) rfl (fun ls hl => ?_)
            obtain ⟨x9, ex9, hf⟩ := nm_of hf
            refine lv_iinc (v := x9) (lv' := [(3, .int x9), (2, .int r8), (0, .ref (qa 0)), (1, .int p1)]) X.1 X.2.1 dX5_done_56 hl (k := 3) rfl (by rw [ex9]; rfl) (by decide) rfl (fun ls hl => ?_)
            refine lv_goto (tgt := 25) X.1 X.2.1 dX5_done_59 (by decide) ?_
            exact ih5 r8 x9 _ _ _ hf hP hS (lv_sub hl [2, 3, 1, 0] rfl)
          · have hf := ifp hf c7
            refine lv_iload_n X.1 X.2.1 dX5_done_35 rfl (lv_at hl 3 rfl) ?_
            obtain rfl := Option.some.inj hf
            exact hret _ _ _ _ _ _ dX5_done_36 rfl rfl (rfl) hP hS
    exact lp5 FU x4 0 _ _ _ hf hP hS (lv_sub hl [2, 3, 1, 0] rfl)
  · have hf := ifp hf c2
    refine lv_iconst (v := (-1)) X.1 X.2.1 dX5_done_11 (by decide) ?_
    obtain rfl := Option.some.inj hf
    exact hret _ _ _ _ _ _ dX5_done_12 rfl rfl (rfl) hP hS
def fX5_drift (p1 : Int32)  (men_n : Int32) (md_n : Int32) (day_n : Int32) (drw_n : Int32) (bu_n : Nat → Int32) (st_n : Nat → Int32) (ki_n : Nat → Int32) (we_n : Nat → Int32) (wo_n : Nat → Int32) (wr_n : Nat → Int32) (kn_p : Int32) (nx_p : Int32) (ke_p : Nat → Nat → Int32) : Option (Int32 × Int32 × Int32 × (Nat → Int32) × (Nat → Int32) × Int32 × Int32 × (Nat → Nat → Int32)) := (fX5_passDays p1 1 men_n md_n day_n drw_n bu_n st_n ki_n we_n wo_n wr_n kn_p nx_p ke_p).bind (fun r1 => some (r1.1, r1.2.1, r1.2.2.1, r1.2.2.2.1, r1.2.2.2.2.1, r1.2.2.2.2.2.1, r1.2.2.2.2.2.2.1, r1.2.2.2.2.2.2.2))
theorem in_X5_drift_X1 : ∀ w ∈ wsX10, w ∈ wsX5_drift := by decide +kernel
theorem in_X5_drift_X5 : ∀ w ∈ wsX50, w ∈ wsX5_drift := by decide +kernel
set_option maxHeartbeats 4000000 in
set_option maxRecDepth 100000 in
theorem ct_X5_drift {l : Launch} {D : va_G} {g : Nat → ClassId} {qa : Nat → Nat} {E0 : Nat → va_E} {p1 : Int32} {img_x : Int32} {men_n : Int32} {md_n : Int32} {day_n : Int32} {drw_n : Int32} {bu_n : Nat → Int32} {st_n : Nat → Int32} {ki_n : Nat → Int32} {we_n : Nat → Int32} {wo_n : Nat → Int32} {wr_n : Nat → Int32} {kn_p : Int32} {nx_p : Int32} {ke_p : Nat → Nat → Int32} (hG_x : Xo g qa E0 0 img_x) (hG_n : Mu g qa E0 1 men_n md_n day_n drw_n bu_n st_n ki_n we_n wo_n wr_n) (hG_p : Pa g qa E0 8 kn_p nx_p ke_p) {R : (Int32 × Int32 × Int32 × (Nat → Int32) × (Nat → Int32) × Int32 × Int32 × (Nat → Nat → Int32))} (hf : fX5_drift p1 men_n md_n day_n drw_n bu_n st_n ki_n we_n wo_n wr_n kn_p nx_p ke_p = some R) : MI l yX5_drift wsX5_drift 6 D g qa E0 [.ref (qa 0), .int p1] R.1 (fun E => Mu g qa E 1 men_n md_n R.2.1 R.2.2.1 bu_n R.2.2.2.1 ki_n we_n wo_n R.2.2.2.2.1 ∧ Pa g qa E 8 R.2.2.2.2.2.1 R.2.2.2.2.2.2.1 R.2.2.2.2.2.2.2 ∧ ∀ j, (j < 1 ∨ 8 ≤ j) → (j < 8 ∨ 18 ≤ j) → E j = E0 j) := by
  refine MI.mk (by decide) rfl (Nat.le_of_ble_eq_true rfl) ?_
  intro p e s m args below meth c ls Q X hret hP hS hl
  have hl : lv_has ls 2 [(0, .ref (qa 0)), (1, .int p1)] := hl
  have hfr : ∀ j, (j < 1 ∨ 8 ≤ j) → (j < 8 ∨ 18 ≤ j) → E0 j = E0 j := fun _ _ _ => rfl
  rw [fX5_drift] at hf
  refine lv_aload_n X.1 X.2.1 dX5_drift_0 rfl (lv_at hl 0 rfl) ?_
  refine lv_iload_n X.1 X.2.1 dX5_drift_1 rfl (lv_at hl 1 rfl) ?_
  refine lv_iconst (v := 1) X.1 X.2.1 dX5_drift_2 (by decide) ?_
  obtain ⟨r1, hr1, hf⟩ := bd_of hf
  refine x_callVi X hP hS hG_x (by omega) rfl (n := 2) (As := [.int p1, .int 1]) (ct_X5_passDays hG_x hG_n hG_p hr1) gX5_drift_X5_passDays rfl (by decide +kernel) ⟨by decide, by decide⟩ rfl hl.1 rfl (Nat.le_of_ble_eq_true rfl) dX5_drift_3 (fun E H locs hp hP hS => ?_)
  obtain ⟨hW_n, hW_p, hk⟩ := hp
  have hG_n := hW_n
  have hG_p := hW_p
  have hG_x := Xo_kept hG_x (fun j h8 h9 => hk j (by omega) (by omega))
  have hfr : ∀ j, (j < 1 ∨ 8 ≤ j) → (j < 8 ∨ 18 ≤ j) → E j = E0 j := fun j o0 o1 => (hk j (by omega) (by omega)).trans (hfr j o0 o1)
  obtain rfl := Option.some.inj hf
  exact hret _ _ _ _ _ _ dX5_drift_6 rfl rfl (⟨hG_n, hG_p, hfr⟩) hP hS
def fX5_drop (p1 : Int32)  (th_r : Nat → Int32) (siz_r : Nat → Int32) : Option (Int32 × (Nat → Int32)) := (fX5_isSheet p1).bind (fun r1 => if r1 = 0 then (some ((-1), th_r)) else (gin p1 4 (if (th_r (Int32.toNatClampNeg p1)) = 0 then (some ((-11), th_r)) else (some (siz_r (Int32.toNatClampNeg p1), va_up th_r (Int32.toNatClampNeg p1) 0)))))
theorem in_X5_drop_X3 : ∀ w ∈ wsX30, w ∈ wsX5_drop := by decide +kernel
theorem in_X5_drop_X5 : ∀ w ∈ wsX50, w ∈ wsX5_drop := by decide +kernel
set_option maxHeartbeats 4000000 in
set_option maxRecDepth 100000 in
theorem ct_X5_drop {l : Launch} {D : va_G} {g : Nat → ClassId} {qa : Nat → Nat} {E0 : Nat → va_E} {p1 : Int32} {img_x : Int32} {th_r : Nat → Int32} {lan_r : Nat → Int32} {siz_r : Nat → Int32} {itm_r : Nat → Nat → Int64} (hG_x : Xo g qa E0 0 img_x) (hG_r : Rs g qa E0 55 th_r lan_r siz_r itm_r) {R : (Int32 × (Nat → Int32))} (hf : fX5_drop p1 th_r siz_r = some R) : MI l yX5_drop wsX5_drop 1 D g qa E0 [.ref (qa 0), .int p1] R.1 (fun E => Rs g qa E 55 R.2 lan_r siz_r itm_r ∧ ∀ j, (j < 55 ∨ 64 ≤ j) → E j = E0 j) := by
  refine MI.mk (by decide) rfl (Nat.le_of_ble_eq_true rfl) ?_
  intro p e s m args below meth c ls Q X hret hP hS hl
  have hl : lv_has ls 3 [(0, .ref (qa 0)), (1, .int p1)] := hl
  have hfr : ∀ j, (j < 55 ∨ 64 ≤ j) → E0 j = E0 j := fun _ _ => rfl
  rw [fX5_drop] at hf
  refine lv_iload_n X.1 X.2.1 dX5_drop_0 rfl (lv_at hl 1 rfl) ?_
  obtain ⟨r1, hr1, hf⟩ := bd_of hf
  refine x_rdSi X hP hS (index := 235) (n := 1) (As := [.int p1]) (ct_X5_isSheet  hr1) ggX5_drop_X5_isSheet (by decide +kernel) (by decide +kernel) (by decide +kernel) rfl (by decide +kernel) ⟨by decide, by decide⟩ rfl hl.1 rfl (Nat.le_of_ble_eq_true rfl) dX5_drop_1 (fun H locs hP hS => ?_)
  refine lv_if_ne (tgt := 9) X.1 X.2.1 dX5_drop_4 (by decide) (fun c2 => ?_) (fun c2 => ?_)
  · have hf := ifn hf c2
    refine lv_aload_n X.1 X.2.1 dX5_drop_9 rfl (lv_at hl 0 rfl) ?_
    refine x_get X hP hG_x (by omega) rfl in_X5_drop_X5 8 (by decide) (by decide +kernel) rfl rfl dX5_drop_10 ?_
    refine lv_iload_n X.1 X.2.1 dX5_drop_13 rfl (lv_at hl 1 rfl) ?_
    obtain ⟨hi3, hf⟩ := gin_of hf
    have hj4 := in_lt hi3
    refine x_aald X hP 4 rfl rfl hG_r.1 (by omega) hi3 dX5_drop_14 ?_
    refine lv_astore_n (lv' := [(2, .ref (qa (55 + 1 + (Int32.toNatClampNeg p1)))), (0, .ref (qa 0)), (1, .int p1)]) X.1 X.2.1 dX5_drop_15 rfl hl (by decide) rfl (fun ls hl => ?_)
    refine lv_aload_n X.1 X.2.1 dX5_drop_16 rfl (lv_at hl 0 rfl) ?_
    refine x_get X hP (hG_r.2.1 _ hj4) (by omega) rfl in_X5_drop_X3 0 (by decide) (by decide +kernel) rfl rfl dX5_drop_17 ?_
    refine lv_if_ne (tgt := 26) X.1 X.2.1 dX5_drop_20 (by decide) (fun c5 => ?_) (fun c5 => ?_)
    · have hf := ifn hf c5
      refine lv_aload_n X.1 X.2.1 dX5_drop_26 rfl (lv_at hl 0 rfl) ?_
      refine lv_iconst (v := 0) X.1 X.2.1 dX5_drop_27 (by decide) ?_
      refine x_put (ty := .boolean) X hP hS (hG_r.2.1 _ hj4) (by omega) rfl in_X5_drop_X3 tyX3 tyX3_ok nmX3 0 (by decide) (by decide +kernel) rfl rfl (by decide +kernel) rfl rfl (Nat.le_of_ble_eq_true rfl) dX5_drop_28 (fun E H locs h1 hk hP hS => ?_)
      have hG_r := Rs_set_P_th hG_r hj4 h1 hk
      have hG_x := Xo_kept hG_x (fun j h8 h9 => hk j (by omega))
      have hfr : ∀ j, (j < 55 ∨ 64 ≤ j) → E j = E0 j := fun j o0 => (hk j (by omega)).trans (hfr j o0)
      refine lv_aload_n X.1 X.2.1 dX5_drop_31 rfl (lv_at hl 0 rfl) ?_
      refine x_get X hP (hG_r.2.1 _ hj4) (by omega) rfl in_X5_drop_X3 2 (by decide) (by decide +kernel) rfl rfl dX5_drop_32 ?_
      obtain rfl := Option.some.inj hf
      exact hret _ _ _ _ _ _ dX5_drop_35 rfl rfl (⟨hG_r, hfr⟩) hP hS
    · have hf := ifp hf c5
      refine lv_bipush (v := (-11)) X.1 X.2.1 dX5_drop_23 (by decide) ?_
      obtain rfl := Option.some.inj hf
      exact hret _ _ _ _ _ _ dX5_drop_25 rfl rfl (⟨hG_r, hfr⟩) hP hS
  · have hf := ifp hf c2
    refine lv_iconst (v := (-1)) X.1 X.2.1 dX5_drop_7 (by decide) ?_
    obtain rfl := Option.some.inj hf
    exact hret _ _ _ _ _ _ dX5_drop_8 rfl rfl (⟨hG_r, hfr⟩) hP hS
def bX5_greatestCommonDivisor_7  (K1 : ((Int32 × Int32 × Int32)) → Option Int32) : ((Int32 × Int32 × Int32)) → Option Int32
  | (v2_1, v3_1, v4_1) => if 100 ≤ v4_1 then (some v2_1) else (if v3_1 = 0 then (some v2_1) else (gnz v3_1 (nm (v2_1 - v2_1 / v3_1 * v3_1) (fun x5 => nm (v4_1 + 1) (fun x6 => K1 (v3_1, x5, x6))))))
def fX5_greatestCommonDivisor (p1 : Int32) (p2 : Int32)   : Option Int32 := lp bX5_greatestCommonDivisor_7 FU (p1, p2, 0)
set_option maxHeartbeats 4000000 in
set_option maxRecDepth 100000 in
theorem ct_X5_greatestCommonDivisor {l : Launch} {D : va_G} {g : Nat → ClassId} {qa : Nat → Nat} {E0 : Nat → va_E} {p1 : Int32} {p2 : Int32} {R : Int32} (hf : fX5_greatestCommonDivisor p1 p2 = some R) : MI l yX5_greatestCommonDivisor wsX5_greatestCommonDivisor 0 D g qa E0 [.int p1, .int p2] R (fun E => E = E0) := by
  refine MI.mk (by decide) rfl (Nat.le_of_ble_eq_true rfl) ?_
  intro p e s m args below meth c ls Q X hret hP hS hl
  have hl : lv_has ls 6 [(0, .int p1), (1, .int p2)] := hl
  rw [fX5_greatestCommonDivisor] at hf
  refine lv_iload_n X.1 X.2.1 dX5_greatestCommonDivisor_0 rfl (lv_at hl 0 rfl) ?_
  refine lv_istore_n (lv' := [(2, .int p1), (0, .int p1), (1, .int p2)]) X.1 X.2.1 dX5_greatestCommonDivisor_1 rfl hl (by decide) rfl (fun ls hl => ?_)
  refine lv_iload_n X.1 X.2.1 dX5_greatestCommonDivisor_2 rfl (lv_at hl 2 rfl) ?_
  refine lv_istore_n (lv' := [(3, .int p2), (2, .int p1), (0, .int p1), (1, .int p2)]) X.1 X.2.1 dX5_greatestCommonDivisor_3 rfl hl (by decide) rfl (fun ls hl => ?_)
  refine lv_iconst (v := 0) X.1 X.2.1 dX5_greatestCommonDivisor_4 (by decide) ?_
  refine lv_istore (lv' := [(4, .int 0), (3, .int p2), (2, .int p1), (0, .int p1), (1, .int p2)]) X.1 X.2.1 dX5_greatestCommonDivisor_5 hl (by decide) rfl (fun ls hl => ?_)
  have lp1 : ∀ (n1 : Nat) (v2_1 : Int32) (v3_1 : Int32) (v4_1 : Int32) (H : Heap) (locs : List Loc) (ls : Array Slot), lp bX5_greatestCommonDivisor_7 n1 (v2_1, v3_1, v4_1) = some R → va_P D vwCl (WD qa E0) H → va_S (gA qa s.heap.size) s.heap H locs → lv_has ls 6 [(0, .int p1), (1, .int p2), (2, .int v2_1), (3, .int v3_1), (4, .int v4_1)] → W p l e (rmf 0) s m args below meth c H locs 0 0 Q (F0 m 7 ls []) := by
    intro n1
    induction n1 with
    | zero =>
      intro v2_1 v3_1 v4_1 H locs ls hf
      exact absurd hf (by intro h; cases h)
    | succ n1 ih1 =>
      intro v2_1 v3_1 v4_1 H locs ls hf hP hS hl
      have hf : bX5_greatestCommonDivisor_7 (lp bX5_greatestCommonDivisor_7 n1) (v2_1, v3_1, v4_1) = some R := hf
      rw [bX5_greatestCommonDivisor_7] at hf
      refine lv_iload X.1 X.2.1 dX5_greatestCommonDivisor_7 (lv_at hl 4 rfl) ?_
      refine lv_bipush (v := 100) X.1 X.2.1 dX5_greatestCommonDivisor_9 (by decide) ?_
      refine lv_icmp_ge (tgt := 34) X.1 X.2.1 dX5_greatestCommonDivisor_11 (by decide) (fun c2 => ?_) (fun c2 => ?_)
      · have hf := ifp hf c2
        refine lv_iload_n X.1 X.2.1 dX5_greatestCommonDivisor_34 rfl (lv_at hl 2 rfl) ?_
        obtain rfl := Option.some.inj hf
        exact hret _ _ _ _ _ _ dX5_greatestCommonDivisor_35 rfl rfl (rfl) hP hS
      · have hf := ifn hf c2
        refine lv_iload_n X.1 X.2.1 dX5_greatestCommonDivisor_14 rfl (lv_at hl 3 rfl) ?_
        refine lv_if_eq (tgt := 34) X.1 X.2.1 dX5_greatestCommonDivisor_15 (by decide) (fun c3 => ?_) (fun c3 => ?_)
        · have hf := ifp hf c3
          refine lv_iload_n X.1 X.2.1 dX5_greatestCommonDivisor_34 rfl (lv_at hl 2 rfl) ?_
          obtain rfl := Option.some.inj hf
          exact hret _ _ _ _ _ _ dX5_greatestCommonDivisor_35 rfl rfl (rfl) hP hS
        · have hf := ifn hf c3
          refine lv_iload_n X.1 X.2.1 dX5_greatestCommonDivisor_18 rfl (lv_at hl 2 rfl) ?_
          refine lv_iload_n X.1 X.2.1 dX5_greatestCommonDivisor_19 rfl (lv_at hl 3 rfl) ?_
          obtain ⟨hz4, hf⟩ := gnz_of hf
          refine lv_irem X.1 X.2.1 dX5_greatestCommonDivisor_20 hz4 ?_
          obtain ⟨x5, ex5, hf⟩ := nm_of hf
          refine lv_top_as ex5 ?_
          refine lv_istore (lv' := [(5, .int x5), (0, .int p1), (1, .int p2), (2, .int v2_1), (3, .int v3_1), (4, .int v4_1)]) X.1 X.2.1 dX5_greatestCommonDivisor_21 hl (by decide) rfl (fun ls hl => ?_)
          refine lv_iload_n X.1 X.2.1 dX5_greatestCommonDivisor_23 rfl (lv_at hl 4 rfl) ?_
          refine lv_istore_n (lv' := [(2, .int v3_1), (5, .int x5), (0, .int p1), (1, .int p2), (3, .int v3_1), (4, .int v4_1)]) X.1 X.2.1 dX5_greatestCommonDivisor_24 rfl hl (by decide) rfl (fun ls hl => ?_)
          refine lv_iload X.1 X.2.1 dX5_greatestCommonDivisor_25 (lv_at hl 1 rfl) ?_
          refine lv_istore_n (lv' := [(3, .int x5), (2, .int v3_1), (5, .int x5), (0, .int p1), (1, .int p2), (4, .int v4_1)]) X.1 X.2.1 dX5_greatestCommonDivisor_27 rfl hl (by decide) rfl (fun ls hl => ?_)
          obtain ⟨x6, ex6, hf⟩ := nm_of hf
          refine lv_iinc (v := x6) (lv' := [(4, .int x6), (3, .int x5), (2, .int v3_1), (5, .int x5), (0, .int p1), (1, .int p2)]) X.1 X.2.1 dX5_greatestCommonDivisor_28 hl (k := 5) rfl (by rw [ex6]; rfl) (by decide) rfl (fun ls hl => ?_)
          refine lv_goto (tgt := 7) X.1 X.2.1 dX5_greatestCommonDivisor_31 (by decide) ?_
          exact ih1 v3_1 x5 x6 _ _ _ hf hP hS (lv_sub hl [4, 5, 2, 1, 0] rfl)
  exact lp1 FU p1 p2 0 _ _ _ hf hP hS (lv_sub hl [3, 4, 2, 1, 0] rfl)
def fX5_error (p1 : Int32) (p2 : Int32)  (men_n : Int32) (md_n : Int32) (day_n : Int32) (st_n : Nat → Int32) (ki_n : Nat → Int32) (we_n : Nat → Int32) (wo_n : Nat → Int32) (wr_n : Nat → Int32) (worn_h : Int32) (ld_h : Nat → Nat → Int32) (wy_h : Nat → Int32) : Option (Int32 × Int32 × (Nat → Nat → Int32) × (Nat → Int32)) := if p1 = (-1) then (if p2 < 0 then (some ((-1), worn_h, ld_h, wy_h)) else (if p2 ≤ 1 then ((fX0_prepare ld_h men_n md_n day_n ki_n we_n wo_n wr_n).bind (fun r4 => (fX0_waysWithNobodyBent r4.1 r4.2 wy_h men_n st_n).bind (fun r5 => nm (r5.1) (fun x6 => (fX0_ways r4.1 men_n).bind (fun r7 => (fX5_greatestCommonDivisor r7 x6).bind (fun r8 => if r8 = 0 then (some ((-1), r4.1, r4.2, r5.2)) else (if p2 = 0 then (gnz r8 (some (x6 / r8, r4.1, r4.2, r5.2))) else (gnz r8 (some (r7 / r8, r4.1, r4.2, r5.2)))))))))) else (some ((-1), worn_h, ld_h, wy_h)))) else ((fX1_hasMan p1 men_n).bind (fun r13 => if r13 = 0 then (some ((-1), worn_h, ld_h, wy_h)) else (if p2 < 0 then (some ((-1), worn_h, ld_h, wy_h)) else (if p2 ≤ 1 then ((fX0_prepare ld_h men_n md_n day_n ki_n we_n wo_n wr_n).bind (fun r17 => (fX0_waysWithBent p1 r17.1 r17.2 men_n st_n).bind (fun r18 => (fX0_ways r17.1 men_n).bind (fun r19 => (fX5_greatestCommonDivisor r19 r18).bind (fun r20 => if r20 = 0 then (some ((-1), r17.1, r17.2, wy_h)) else (if p2 = 0 then (gnz r20 (some (r18 / r20, r17.1, r17.2, wy_h))) else (gnz r20 (some (r19 / r20, r17.1, r17.2, wy_h))))))))) else (some ((-1), worn_h, ld_h, wy_h))))))
theorem in_X5_error_X5 : ∀ w ∈ wsX50, w ∈ wsX5_error := by decide +kernel
set_option maxHeartbeats 4000000 in
set_option maxRecDepth 100000 in
theorem ct_X5_error {l : Launch} {D : va_G} {g : Nat → ClassId} {qa : Nat → Nat} {E0 : Nat → va_E} {p1 : Int32} {p2 : Int32} {img_x : Int32} {men_n : Int32} {md_n : Int32} {day_n : Int32} {drw_n : Int32} {bu_n : Nat → Int32} {st_n : Nat → Int32} {ki_n : Nat → Int32} {we_n : Nat → Int32} {wo_n : Nat → Int32} {wr_n : Nat → Int32} {worn_h : Int32} {few_h : Int32} {bc_h : Int32} {ld_h : Nat → Nat → Int32} {so_h : Nat → Int32} {tr_h : Nat → Int32} {be_h : Nat → Int32} {wy_h : Nat → Int32} (hG_x : Xo g qa E0 0 img_x) (hG_n : Mu g qa E0 1 men_n md_n day_n drw_n bu_n st_n ki_n we_n wo_n wr_n) (hG_h : Ha g qa E0 44 worn_h few_h bc_h ld_h so_h tr_h be_h wy_h) {R : (Int32 × Int32 × (Nat → Nat → Int32) × (Nat → Int32))} (hf : fX5_error p1 p2 men_n md_n day_n st_n ki_n we_n wo_n wr_n worn_h ld_h wy_h = some R) : MI l yX5_error wsX5_error 4 D g qa E0 [.ref (qa 0), .int p1, .int p2] R.1 (fun E => Ha g qa E 44 R.2.1 few_h bc_h R.2.2.1 so_h tr_h be_h R.2.2.2 ∧ ∀ j, (j < 44 ∨ 55 ≤ j) → E j = E0 j) := by
  refine MI.mk (by decide) rfl (Nat.le_of_ble_eq_true rfl) ?_
  intro p e s m args below meth c ls Q X hret hP hS hl
  have hl : lv_has ls 6 [(0, .ref (qa 0)), (1, .int p1), (2, .int p2)] := hl
  have hfr : ∀ j, (j < 44 ∨ 55 ≤ j) → E0 j = E0 j := fun _ _ => rfl
  rw [fX5_error] at hf
  refine lv_iload_n X.1 X.2.1 dX5_error_0 rfl (lv_at hl 1 rfl) ?_
  refine lv_iconst (v := (-1)) X.1 X.2.1 dX5_error_1 (by decide) ?_
  refine lv_icmp_eq (tgt := 16) X.1 X.2.1 dX5_error_2 (by decide) (fun c1 => ?_) (fun c1 => ?_)
  · have hf := ifp hf c1
    refine lv_iload_n X.1 X.2.1 dX5_error_16 rfl (lv_at hl 2 rfl) ?_
    refine lv_if_lt (tgt := 25) X.1 X.2.1 dX5_error_17 (by decide) (fun c2 => ?_) (fun c2 => ?_)
    · have hf := ifp hf c2
      refine lv_iconst (v := (-1)) X.1 X.2.1 dX5_error_25 (by decide) ?_
      obtain rfl := Option.some.inj hf
      exact hret _ _ _ _ _ _ dX5_error_26 rfl rfl (⟨hG_h, hfr⟩) hP hS
    · have hf := ifn hf c2
      refine lv_iload_n X.1 X.2.1 dX5_error_20 rfl (lv_at hl 2 rfl) ?_
      refine lv_iconst (v := 1) X.1 X.2.1 dX5_error_21 (by decide) ?_
      refine lv_icmp_le (tgt := 27) X.1 X.2.1 dX5_error_22 (by decide) (fun c3 => ?_) (fun c3 => ?_)
      · have hf := ifp hf c3
        refine lv_aload_n X.1 X.2.1 dX5_error_27 rfl (lv_at hl 0 rfl) ?_
        refine x_get X hP hG_x (by omega) rfl in_X5_error_X5 7 (by decide) (by decide +kernel) rfl rfl dX5_error_28 ?_
        obtain ⟨r4, hr4, hf⟩ := bd_of hf
        refine x_callVv X hP hS hG_h.1 (by omega) rfl (n := 0) (As := []) (ct_X0_prepare hG_h hG_n hr4) gX5_error_X0_prepare rfl (by decide +kernel) ⟨by decide, by decide⟩ rfl hl.1 rfl (Nat.le_of_ble_eq_true rfl) dX5_error_31 (fun E H locs hp hP hS => ?_)
        obtain ⟨hW_h, hk⟩ := hp
        have hG_h := hW_h
        have hG_x := Xo_kept hG_x (fun j h8 h9 => hk j (by omega))
        have hG_n := Mu_kept hG_n (fun j h8 h9 => hk j (by omega))
        have hfr : ∀ j, (j < 44 ∨ 55 ≤ j) → E j = E0 j := fun j o0 => (hk j (by omega)).trans (hfr j o0)
        refine lv_iload_n X.1 X.2.1 dX5_error_34 rfl (lv_at hl 1 rfl) ?_
        refine lv_iconst (v := (-1)) X.1 X.2.1 dX5_error_35 (by decide) ?_
        refine lv_icmp_ne (tgt := 49) X.1 X.2.1 dX5_error_36 (by decide) (fun q => absurd c1 q) (fun _ => ?_)
        refine lv_aload_n X.1 X.2.1 dX5_error_39 rfl (lv_at hl 0 rfl) ?_
        refine x_get X hP hG_x (by omega) rfl in_X5_error_X5 7 (by decide) (by decide +kernel) rfl rfl dX5_error_40 ?_
        obtain ⟨r5, hr5, hf⟩ := bd_of hf
        refine x_callVi X hP hS hG_h.1 (by omega) rfl (n := 0) (As := []) (ct_X0_waysWithNobodyBent hG_h hG_n hr5) gX5_error_X0_waysWithNobodyBent rfl (by decide +kernel) ⟨by decide, by decide⟩ rfl hl.1 rfl (Nat.le_of_ble_eq_true rfl) dX5_error_43 (fun E H locs hp hP hS => ?_)
        obtain ⟨hW_h, hk⟩ := hp
        have hG_h := hW_h
        have hG_x := Xo_kept hG_x (fun j h8 h9 => hk j (by omega))
        have hG_n := Mu_kept hG_n (fun j h8 h9 => hk j (by omega))
        have hfr : ∀ j, (j < 44 ∨ 55 ≤ j) → E j = E0 j := fun j o0 => (hk j (by omega)).trans (hfr j o0)
        refine lv_goto (tgt := 57) X.1 X.2.1 dX5_error_46 (by decide) ?_
        obtain ⟨x6, ex6, hf⟩ := nm_of hf
        refine lv_top_as ex6 ?_
        refine lv_istore_n (lv' := [(3, .int x6), (0, .ref (qa 0)), (1, .int p1), (2, .int p2)]) X.1 X.2.1 dX5_error_57 rfl hl (by decide) rfl (fun ls hl => ?_)
        refine lv_aload_n X.1 X.2.1 dX5_error_58 rfl (lv_at hl 1 rfl) ?_
        refine x_get X hP hG_x (by omega) rfl in_X5_error_X5 7 (by decide) (by decide +kernel) rfl rfl dX5_error_59 ?_
        obtain ⟨r7, hr7, hf⟩ := bd_of hf
        refine x_rdVi X hP hS hG_h.1 (by omega) rfl (n := 0) (As := []) (ct_X0_ways hG_h hG_n hr7) gX5_error_X0_ways rfl (by decide +kernel) ⟨by decide, by decide⟩ rfl hl.1 rfl (Nat.le_of_ble_eq_true rfl) dX5_error_62 (fun H locs hP hS => ?_)
        refine lv_istore (lv' := [(4, .int r7), (3, .int x6), (0, .ref (qa 0)), (1, .int p1), (2, .int p2)]) X.1 X.2.1 dX5_error_65 hl (by decide) rfl (fun ls hl => ?_)
        refine lv_iload X.1 X.2.1 dX5_error_67 (lv_at hl 0 rfl) ?_
        refine lv_iload_n X.1 X.2.1 dX5_error_69 rfl (lv_at hl 1 rfl) ?_
        obtain ⟨r8, hr8, hf⟩ := bd_of hf
        refine x_rdSi X hP hS (index := 229) (n := 2) (As := [.int r7, .int x6]) (ct_X5_greatestCommonDivisor  hr8) ggX5_error_X5_greatestCommonDivisor (by decide +kernel) (by decide +kernel) (by decide +kernel) rfl (by decide +kernel) ⟨by decide, by decide⟩ rfl hl.1 rfl (Nat.le_of_ble_eq_true rfl) dX5_error_70 (fun H locs hP hS => ?_)
        refine lv_istore (lv' := [(5, .int r8), (4, .int r7), (3, .int x6), (0, .ref (qa 0)), (1, .int p1), (2, .int p2)]) X.1 X.2.1 dX5_error_73 hl (by decide) rfl (fun ls hl => ?_)
        refine lv_iload X.1 X.2.1 dX5_error_75 (lv_at hl 0 rfl) ?_
        refine lv_if_ne (tgt := 82) X.1 X.2.1 dX5_error_77 (by decide) (fun c9 => ?_) (fun c9 => ?_)
        · have hf := ifn hf c9
          refine lv_iload_n X.1 X.2.1 dX5_error_82 rfl (lv_at hl 5 rfl) ?_
          refine lv_if_ne (tgt := 93) X.1 X.2.1 dX5_error_83 (by decide) (fun c10 => ?_) (fun c10 => ?_)
          · have hf := ifn hf c10
            refine lv_iload X.1 X.2.1 dX5_error_93 (lv_at hl 1 rfl) ?_
            refine lv_iload X.1 X.2.1 dX5_error_95 (lv_at hl 0 rfl) ?_
            obtain ⟨hz11, hf⟩ := gnz_of hf
            refine lv_idiv X.1 X.2.1 dX5_error_97 hz11 ?_
            obtain rfl := Option.some.inj hf
            exact hret _ _ _ _ _ _ dX5_error_98 rfl rfl (⟨hG_h, hfr⟩) hP hS
          · have hf := ifp hf c10
            refine lv_iload_n X.1 X.2.1 dX5_error_86 rfl (lv_at hl 2 rfl) ?_
            refine lv_iload X.1 X.2.1 dX5_error_87 (lv_at hl 0 rfl) ?_
            obtain ⟨hz12, hf⟩ := gnz_of hf
            refine lv_idiv X.1 X.2.1 dX5_error_89 hz12 ?_
            refine lv_goto (tgt := 98) X.1 X.2.1 dX5_error_90 (by decide) ?_
            obtain rfl := Option.some.inj hf
            exact hret _ _ _ _ _ _ dX5_error_98 rfl rfl (⟨hG_h, hfr⟩) hP hS
        · have hf := ifp hf c9
          refine lv_iconst (v := (-1)) X.1 X.2.1 dX5_error_80 (by decide) ?_
          obtain rfl := Option.some.inj hf
          exact hret _ _ _ _ _ _ dX5_error_81 rfl rfl (⟨hG_h, hfr⟩) hP hS
      · have hf := ifn hf c3
        refine lv_iconst (v := (-1)) X.1 X.2.1 dX5_error_25 (by decide) ?_
        obtain rfl := Option.some.inj hf
        exact hret _ _ _ _ _ _ dX5_error_26 rfl rfl (⟨hG_h, hfr⟩) hP hS
  · have hf := ifn hf c1
    refine lv_aload_n X.1 X.2.1 dX5_error_5 rfl (lv_at hl 0 rfl) ?_
    refine x_get X hP hG_x (by omega) rfl in_X5_error_X5 0 (by decide) (by decide +kernel) rfl rfl dX5_error_6 ?_
    refine lv_iload_n X.1 X.2.1 dX5_error_9 rfl (lv_at hl 1 rfl) ?_
    obtain ⟨r13, hr13, hf⟩ := bd_of hf
    refine x_rdVi X hP hS hG_n.1 (by omega) rfl (n := 1) (As := [.int p1]) (ct_X1_hasMan (by omega) hG_n hr13) gX5_error_X1_hasMan rfl (by decide +kernel) ⟨by decide, by decide⟩ rfl hl.1 rfl (Nat.le_of_ble_eq_true rfl) dX5_error_10 (fun H locs hP hS => ?_)
    refine lv_if_eq (tgt := 25) X.1 X.2.1 dX5_error_13 (by decide) (fun c14 => ?_) (fun c14 => ?_)
    · have hf := ifp hf c14
      refine lv_iconst (v := (-1)) X.1 X.2.1 dX5_error_25 (by decide) ?_
      obtain rfl := Option.some.inj hf
      exact hret _ _ _ _ _ _ dX5_error_26 rfl rfl (⟨hG_h, hfr⟩) hP hS
    · have hf := ifn hf c14
      refine lv_iload_n X.1 X.2.1 dX5_error_16 rfl (lv_at hl 2 rfl) ?_
      refine lv_if_lt (tgt := 25) X.1 X.2.1 dX5_error_17 (by decide) (fun c15 => ?_) (fun c15 => ?_)
      · have hf := ifp hf c15
        refine lv_iconst (v := (-1)) X.1 X.2.1 dX5_error_25 (by decide) ?_
        obtain rfl := Option.some.inj hf
        exact hret _ _ _ _ _ _ dX5_error_26 rfl rfl (⟨hG_h, hfr⟩) hP hS
      · have hf := ifn hf c15
        refine lv_iload_n X.1 X.2.1 dX5_error_20 rfl (lv_at hl 2 rfl) ?_
        refine lv_iconst (v := 1) X.1 X.2.1 dX5_error_21 (by decide) ?_
        refine lv_icmp_le (tgt := 27) X.1 X.2.1 dX5_error_22 (by decide) (fun c16 => ?_) (fun c16 => ?_)
        · have hf := ifp hf c16
          refine lv_aload_n X.1 X.2.1 dX5_error_27 rfl (lv_at hl 0 rfl) ?_
          refine x_get X hP hG_x (by omega) rfl in_X5_error_X5 7 (by decide) (by decide +kernel) rfl rfl dX5_error_28 ?_
          obtain ⟨r17, hr17, hf⟩ := bd_of hf
          refine x_callVv X hP hS hG_h.1 (by omega) rfl (n := 0) (As := []) (ct_X0_prepare hG_h hG_n hr17) gX5_error_X0_prepare rfl (by decide +kernel) ⟨by decide, by decide⟩ rfl hl.1 rfl (Nat.le_of_ble_eq_true rfl) dX5_error_31 (fun E H locs hp hP hS => ?_)
          obtain ⟨hW_h, hk⟩ := hp
          have hG_h := hW_h
          have hG_x := Xo_kept hG_x (fun j h8 h9 => hk j (by omega))
          have hG_n := Mu_kept hG_n (fun j h8 h9 => hk j (by omega))
          have hfr : ∀ j, (j < 44 ∨ 55 ≤ j) → E j = E0 j := fun j o0 => (hk j (by omega)).trans (hfr j o0)
          refine lv_iload_n X.1 X.2.1 dX5_error_34 rfl (lv_at hl 1 rfl) ?_
          refine lv_iconst (v := (-1)) X.1 X.2.1 dX5_error_35 (by decide) ?_
          refine lv_icmp_ne (tgt := 49) X.1 X.2.1 dX5_error_36 (by decide) (fun _ => ?_) (fun q => absurd q c1)
          refine lv_aload_n X.1 X.2.1 dX5_error_49 rfl (lv_at hl 0 rfl) ?_
          refine x_get X hP hG_x (by omega) rfl in_X5_error_X5 7 (by decide) (by decide +kernel) rfl rfl dX5_error_50 ?_
          refine lv_iload_n X.1 X.2.1 dX5_error_53 rfl (lv_at hl 1 rfl) ?_
          obtain ⟨r18, hr18, hf⟩ := bd_of hf
          refine x_rdVi X hP hS hG_h.1 (by omega) rfl (n := 1) (As := [.int p1]) (ct_X0_waysWithBent hG_h hG_n hr18) gX5_error_X0_waysWithBent rfl (by decide +kernel) ⟨by decide, by decide⟩ rfl hl.1 rfl (Nat.le_of_ble_eq_true rfl) dX5_error_54 (fun H locs hP hS => ?_)
          refine lv_istore_n (lv' := [(3, .int r18), (0, .ref (qa 0)), (1, .int p1), (2, .int p2)]) X.1 X.2.1 dX5_error_57 rfl hl (by decide) rfl (fun ls hl => ?_)
          refine lv_aload_n X.1 X.2.1 dX5_error_58 rfl (lv_at hl 1 rfl) ?_
          refine x_get X hP hG_x (by omega) rfl in_X5_error_X5 7 (by decide) (by decide +kernel) rfl rfl dX5_error_59 ?_
          obtain ⟨r19, hr19, hf⟩ := bd_of hf
          refine x_rdVi X hP hS hG_h.1 (by omega) rfl (n := 0) (As := []) (ct_X0_ways hG_h hG_n hr19) gX5_error_X0_ways rfl (by decide +kernel) ⟨by decide, by decide⟩ rfl hl.1 rfl (Nat.le_of_ble_eq_true rfl) dX5_error_62 (fun H locs hP hS => ?_)
          refine lv_istore (lv' := [(4, .int r19), (3, .int r18), (0, .ref (qa 0)), (1, .int p1), (2, .int p2)]) X.1 X.2.1 dX5_error_65 hl (by decide) rfl (fun ls hl => ?_)
          refine lv_iload X.1 X.2.1 dX5_error_67 (lv_at hl 0 rfl) ?_
          refine lv_iload_n X.1 X.2.1 dX5_error_69 rfl (lv_at hl 1 rfl) ?_
          obtain ⟨r20, hr20, hf⟩ := bd_of hf
          refine x_rdSi X hP hS (index := 229) (n := 2) (As := [.int r19, .int r18]) (ct_X5_greatestCommonDivisor  hr20) ggX5_error_X5_greatestCommonDivisor (by decide +kernel) (by decide +kernel) (by decide +kernel) rfl (by decide +kernel) ⟨by decide, by decide⟩ rfl hl.1 rfl (Nat.le_of_ble_eq_true rfl) dX5_error_70 (fun H locs hP hS => ?_)
          refine lv_istore (lv' := [(5, .int r20), (4, .int r19), (3, .int r18), (0, .ref (qa 0)), (1, .int p1), (2, .int p2)]) X.1 X.2.1 dX5_error_73 hl (by decide) rfl (fun ls hl => ?_)
          refine lv_iload X.1 X.2.1 dX5_error_75 (lv_at hl 0 rfl) ?_
          refine lv_if_ne (tgt := 82) X.1 X.2.1 dX5_error_77 (by decide) (fun c21 => ?_) (fun c21 => ?_)
          · have hf := ifn hf c21
            refine lv_iload_n X.1 X.2.1 dX5_error_82 rfl (lv_at hl 5 rfl) ?_
            refine lv_if_ne (tgt := 93) X.1 X.2.1 dX5_error_83 (by decide) (fun c22 => ?_) (fun c22 => ?_)
            · have hf := ifn hf c22
              refine lv_iload X.1 X.2.1 dX5_error_93 (lv_at hl 1 rfl) ?_
              refine lv_iload X.1 X.2.1 dX5_error_95 (lv_at hl 0 rfl) ?_
              obtain ⟨hz23, hf⟩ := gnz_of hf
              refine lv_idiv X.1 X.2.1 dX5_error_97 hz23 ?_
              obtain rfl := Option.some.inj hf
              exact hret _ _ _ _ _ _ dX5_error_98 rfl rfl (⟨hG_h, hfr⟩) hP hS
            · have hf := ifp hf c22
              refine lv_iload_n X.1 X.2.1 dX5_error_86 rfl (lv_at hl 2 rfl) ?_
              refine lv_iload X.1 X.2.1 dX5_error_87 (lv_at hl 0 rfl) ?_
              obtain ⟨hz24, hf⟩ := gnz_of hf
              refine lv_idiv X.1 X.2.1 dX5_error_89 hz24 ?_
              refine lv_goto (tgt := 98) X.1 X.2.1 dX5_error_90 (by decide) ?_
              obtain rfl := Option.some.inj hf
              exact hret _ _ _ _ _ _ dX5_error_98 rfl rfl (⟨hG_h, hfr⟩) hP hS
          · have hf := ifp hf c21
            refine lv_iconst (v := (-1)) X.1 X.2.1 dX5_error_80 (by decide) ?_
            obtain rfl := Option.some.inj hf
            exact hret _ _ _ _ _ _ dX5_error_81 rfl rfl (⟨hG_h, hfr⟩) hP hS
        · have hf := ifn hf c16
          refine lv_iconst (v := (-1)) X.1 X.2.1 dX5_error_25 (by decide) ?_
          obtain rfl := Option.some.inj hf
          exact hret _ _ _ _ _ _ dX5_error_26 rfl rfl (⟨hG_h, hfr⟩) hP hS
def fX5_even (p1 : Int32)  (men_n : Int32) (md_n : Int32) (day_n : Int32) (st_n : Nat → Int32) (ki_n : Nat → Int32) (we_n : Nat → Int32) (wo_n : Nat → Int32) (wr_n : Nat → Int32) (worn_h : Int32) (few_h : Int32) (bc_h : Int32) (ld_h : Nat → Nat → Int32) (so_h : Nat → Int32) (tr_h : Nat → Int32) (be_h : Nat → Int32) : Option (Int32 × Int32 × Int32 × Int32 × (Nat → Nat → Int32) × (Nat → Int32) × (Nat → Int32) × (Nat → Int32)) := if (-1) ≤ p1 then ((fX0_findEven ld_h so_h tr_h be_h men_n md_n day_n st_n ki_n we_n wo_n wr_n).bind (fun r2 => if p1 = (-1) then (some (r2.2.2.1, r2.1, r2.2.1, r2.2.2.1, r2.2.2.2.1, r2.2.2.2.2.1, r2.2.2.2.2.2.1, r2.2.2.2.2.2.2)) else ((fX0_wouldWear p1 r2.2.2.2.2.2.2).bind (fun r4 => some (r4, r2.1, r2.2.1, r2.2.2.1, r2.2.2.2.1, r2.2.2.2.2.1, r2.2.2.2.2.2.1, r2.2.2.2.2.2.2))))) else (some ((-1), worn_h, few_h, bc_h, ld_h, so_h, tr_h, be_h))
theorem in_X5_even_X0 : ∀ w ∈ wsX00, w ∈ wsX5_even := by decide +kernel
theorem in_X5_even_X5 : ∀ w ∈ wsX50, w ∈ wsX5_even := by decide +kernel
set_option maxHeartbeats 4000000 in
set_option maxRecDepth 100000 in
theorem ct_X5_even {l : Launch} {D : va_G} {g : Nat → ClassId} {qa : Nat → Nat} {E0 : Nat → va_E} {p1 : Int32} {img_x : Int32} {men_n : Int32} {md_n : Int32} {day_n : Int32} {drw_n : Int32} {bu_n : Nat → Int32} {st_n : Nat → Int32} {ki_n : Nat → Int32} {we_n : Nat → Int32} {wo_n : Nat → Int32} {wr_n : Nat → Int32} {worn_h : Int32} {few_h : Int32} {bc_h : Int32} {ld_h : Nat → Nat → Int32} {so_h : Nat → Int32} {tr_h : Nat → Int32} {be_h : Nat → Int32} {wy_h : Nat → Int32} (hG_x : Xo g qa E0 0 img_x) (hG_n : Mu g qa E0 1 men_n md_n day_n drw_n bu_n st_n ki_n we_n wo_n wr_n) (hG_h : Ha g qa E0 44 worn_h few_h bc_h ld_h so_h tr_h be_h wy_h) {R : (Int32 × Int32 × Int32 × Int32 × (Nat → Nat → Int32) × (Nat → Int32) × (Nat → Int32) × (Nat → Int32))} (hf : fX5_even p1 men_n md_n day_n st_n ki_n we_n wo_n wr_n worn_h few_h bc_h ld_h so_h tr_h be_h = some R) : MI l yX5_even wsX5_even 14 D g qa E0 [.ref (qa 0), .int p1] R.1 (fun E => Ha g qa E 44 R.2.1 R.2.2.1 R.2.2.2.1 R.2.2.2.2.1 R.2.2.2.2.2.1 R.2.2.2.2.2.2.1 R.2.2.2.2.2.2.2 wy_h ∧ ∀ j, (j < 44 ∨ 55 ≤ j) → E j = E0 j) := by
  refine MI.mk (by decide) rfl (Nat.le_of_ble_eq_true rfl) ?_
  intro p e s m args below meth c ls Q X hret hP hS hl
  have hl : lv_has ls 2 [(0, .ref (qa 0)), (1, .int p1)] := hl
  have hfr : ∀ j, (j < 44 ∨ 55 ≤ j) → E0 j = E0 j := fun _ _ => rfl
  rw [fX5_even] at hf
  refine lv_iload_n X.1 X.2.1 dX5_even_0 rfl (lv_at hl 1 rfl) ?_
  refine lv_iconst (v := (-1)) X.1 X.2.1 dX5_even_1 (by decide) ?_
  refine lv_icmp_ge (tgt := 7) X.1 X.2.1 dX5_even_2 (by decide) (fun c1 => ?_) (fun c1 => ?_)
  · have hf := ifp hf c1
    refine lv_aload_n X.1 X.2.1 dX5_even_7 rfl (lv_at hl 0 rfl) ?_
    refine x_get X hP hG_x (by omega) rfl in_X5_even_X5 7 (by decide) (by decide +kernel) rfl rfl dX5_even_8 ?_
    obtain ⟨r2, hr2, hf⟩ := bd_of hf
    refine x_callVv X hP hS hG_h.1 (by omega) rfl (n := 0) (As := []) (ct_X0_findEven hG_h hG_n hr2) gX5_even_X0_findEven rfl (by decide +kernel) ⟨by decide, by decide⟩ rfl hl.1 rfl (Nat.le_of_ble_eq_true rfl) dX5_even_11 (fun E H locs hp hP hS => ?_)
    obtain ⟨hW_h, hk⟩ := hp
    have hG_h := hW_h
    have hG_x := Xo_kept hG_x (fun j h8 h9 => hk j (by omega))
    have hG_n := Mu_kept hG_n (fun j h8 h9 => hk j (by omega))
    have hfr : ∀ j, (j < 44 ∨ 55 ≤ j) → E j = E0 j := fun j o0 => (hk j (by omega)).trans (hfr j o0)
    refine lv_iload_n X.1 X.2.1 dX5_even_14 rfl (lv_at hl 1 rfl) ?_
    refine lv_iconst (v := (-1)) X.1 X.2.1 dX5_even_15 (by decide) ?_
    refine lv_icmp_ne (tgt := 29) X.1 X.2.1 dX5_even_16 (by decide) (fun c3 => ?_) (fun c3 => ?_)
    · have hf := ifn hf c3
      refine lv_aload_n X.1 X.2.1 dX5_even_29 rfl (lv_at hl 0 rfl) ?_
      refine x_get X hP hG_x (by omega) rfl in_X5_even_X5 7 (by decide) (by decide +kernel) rfl rfl dX5_even_30 ?_
      refine lv_iload_n X.1 X.2.1 dX5_even_33 rfl (lv_at hl 1 rfl) ?_
      obtain ⟨r4, hr4, hf⟩ := bd_of hf
      refine x_rdVi X hP hS hG_h.1 (by omega) rfl (n := 1) (As := [.int p1]) (ct_X0_wouldWear hG_h hr4) gX5_even_X0_wouldWear rfl (by decide +kernel) ⟨by decide, by decide⟩ rfl hl.1 rfl (Nat.le_of_ble_eq_true rfl) dX5_even_34 (fun H locs hP hS => ?_)
      obtain rfl := Option.some.inj hf
      exact hret _ _ _ _ _ _ dX5_even_37 rfl rfl (⟨hG_h, hfr⟩) hP hS
    · have hf := ifp hf c3
      refine lv_aload_n X.1 X.2.1 dX5_even_19 rfl (lv_at hl 0 rfl) ?_
      refine x_get X hP hG_x (by omega) rfl in_X5_even_X5 7 (by decide) (by decide +kernel) rfl rfl dX5_even_20 ?_
      refine x_get X hP hG_h.1 (by omega) rfl in_X5_even_X0 8 (by decide) (by decide +kernel) rfl rfl dX5_even_23 ?_
      refine lv_goto (tgt := 37) X.1 X.2.1 dX5_even_26 (by decide) ?_
      obtain rfl := Option.some.inj hf
      exact hret _ _ _ _ _ _ dX5_even_37 rfl rfl (⟨hG_h, hfr⟩) hP hS
  · have hf := ifn hf c1
    refine lv_iconst (v := (-1)) X.1 X.2.1 dX5_even_5 (by decide) ?_
    obtain rfl := Option.some.inj hf
    exact hret _ _ _ _ _ _ dX5_even_6 rfl rfl (⟨hG_h, hfr⟩) hP hS
def bX5_ever_4 (men_n : Int32) (md_n : Int32) (day_n : Int32) (bu_n : Nat → Int32) (st_n : Nat → Int32) (ki_n : Nat → Int32) (we_n : Nat → Int32) (wo_n : Nat → Int32) (wr_n : Nat → Int32) (K1 : ((Int32 × Int32)) → Option Int32) : ((Int32 × Int32)) → Option Int32
  | (v1_1, v2_1) => if men_n ≤ v2_1 then (some v1_1) else ((fX1_isBentWithin v2_1 60 md_n day_n bu_n st_n ki_n we_n wo_n wr_n).bind (fun r3 => if r3 = 0 then (nm (v2_1 + 1) (fun x5 => K1 (v1_1, x5))) else (nm (v1_1 ||| (1 <<< (v2_1 &&& 31))) (fun x6 => nm (v2_1 + 1) (fun x7 => K1 (x6, x7))))))
def fX5_ever   (men_n : Int32) (md_n : Int32) (day_n : Int32) (bu_n : Nat → Int32) (st_n : Nat → Int32) (ki_n : Nat → Int32) (we_n : Nat → Int32) (wo_n : Nat → Int32) (wr_n : Nat → Int32) : Option Int32 := lp (bX5_ever_4 men_n md_n day_n bu_n st_n ki_n we_n wo_n wr_n) FU (0, 0)
theorem in_X5_ever_X1 : ∀ w ∈ wsX10, w ∈ wsX5_ever := by decide +kernel
theorem in_X5_ever_X5 : ∀ w ∈ wsX50, w ∈ wsX5_ever := by decide +kernel
set_option maxHeartbeats 4000000 in
set_option maxRecDepth 100000 in
theorem ct_X5_ever {l : Launch} {D : va_G} {g : Nat → ClassId} {qa : Nat → Nat} {E0 : Nat → va_E} {img_x : Int32} {men_n : Int32} {md_n : Int32} {day_n : Int32} {drw_n : Int32} {bu_n : Nat → Int32} {st_n : Nat → Int32} {ki_n : Nat → Int32} {we_n : Nat → Int32} {wo_n : Nat → Int32} {wr_n : Nat → Int32} (hG_x : Xo g qa E0 0 img_x) (hG_n : Mu g qa E0 1 men_n md_n day_n drw_n bu_n st_n ki_n we_n wo_n wr_n) {R : Int32} (hf : fX5_ever men_n md_n day_n bu_n st_n ki_n we_n wo_n wr_n = some R) : MI l yX5_ever wsX5_ever 5 D g qa E0 [.ref (qa 0)] R (fun E => E = E0) := by
  refine MI.mk (by decide) rfl (Nat.le_of_ble_eq_true rfl) ?_
  intro p e s m args below meth c ls Q X hret hP hS hl
  have hl : lv_has ls 3 [(0, .ref (qa 0))] := hl
  rw [fX5_ever] at hf
  refine lv_iconst (v := 0) X.1 X.2.1 dX5_ever_0 (by decide) ?_
  refine lv_istore_n (lv' := [(1, .int 0), (0, .ref (qa 0))]) X.1 X.2.1 dX5_ever_1 rfl hl (by decide) rfl (fun ls hl => ?_)
  refine lv_iconst (v := 0) X.1 X.2.1 dX5_ever_2 (by decide) ?_
  refine lv_istore_n (lv' := [(2, .int 0), (1, .int 0), (0, .ref (qa 0))]) X.1 X.2.1 dX5_ever_3 rfl hl (by decide) rfl (fun ls hl => ?_)
  have lp1 : ∀ (n1 : Nat) (v1_1 : Int32) (v2_1 : Int32) (H : Heap) (locs : List Loc) (ls : Array Slot), lp (bX5_ever_4 men_n md_n day_n bu_n st_n ki_n we_n wo_n wr_n) n1 (v1_1, v2_1) = some R → va_P D vwCl (WD qa E0) H → va_S (gA qa s.heap.size) s.heap H locs → lv_has ls 3 [(0, .ref (qa 0)), (1, .int v1_1), (2, .int v2_1)] → W p l e (rmf 5) s m args below meth c H locs 0 0 Q (F0 m 4 ls []) := by
    intro n1
    induction n1 with
    | zero =>
      intro v1_1 v2_1 H locs ls hf
      exact absurd hf (by intro h; cases h)
    | succ n1 ih1 =>
      intro v1_1 v2_1 H locs ls hf hP hS hl
      have hf : bX5_ever_4 men_n md_n day_n bu_n st_n ki_n we_n wo_n wr_n (lp (bX5_ever_4 men_n md_n day_n bu_n st_n ki_n we_n wo_n wr_n) n1) (v1_1, v2_1) = some R := hf
      rw [bX5_ever_4] at hf
      refine lv_iload_n X.1 X.2.1 dX5_ever_4 rfl (lv_at hl 2 rfl) ?_
      refine lv_aload_n X.1 X.2.1 dX5_ever_5 rfl (lv_at hl 0 rfl) ?_
      refine x_get X hP hG_x (by omega) rfl in_X5_ever_X5 0 (by decide) (by decide +kernel) rfl rfl dX5_ever_6 ?_
      refine x_get X hP hG_n.1 (by omega) rfl in_X5_ever_X1 0 (by decide) (by decide +kernel) rfl rfl dX5_ever_9 ?_
      refine lv_icmp_ge (tgt := 40) X.1 X.2.1 dX5_ever_12 (by decide) (fun c2 => ?_) (fun c2 => ?_)
      · have hf := ifp hf c2
        refine lv_iload_n X.1 X.2.1 dX5_ever_40 rfl (lv_at hl 1 rfl) ?_
        obtain rfl := Option.some.inj hf
        exact hret _ _ _ _ _ _ dX5_ever_41 rfl rfl (rfl) hP hS
      · have hf := ifn hf c2
        refine lv_aload_n X.1 X.2.1 dX5_ever_15 rfl (lv_at hl 0 rfl) ?_
        refine x_get X hP hG_x (by omega) rfl in_X5_ever_X5 0 (by decide) (by decide +kernel) rfl rfl dX5_ever_16 ?_
        refine lv_iload_n X.1 X.2.1 dX5_ever_19 rfl (lv_at hl 2 rfl) ?_
        refine lv_bipush (v := 60) X.1 X.2.1 dX5_ever_20 (by decide) ?_
        obtain ⟨r3, hr3, hf⟩ := bd_of hf
        refine x_rdVi X hP hS hG_n.1 (by omega) rfl (n := 2) (As := [.int v2_1, .int 60]) (ct_X1_isBentWithin (by omega) hG_n hr3) gX5_ever_X1_isBentWithin rfl (by decide +kernel) ⟨by decide, by decide⟩ rfl hl.1 rfl (Nat.le_of_ble_eq_true rfl) dX5_ever_22 (fun H locs hP hS => ?_)
        refine lv_if_eq (tgt := 34) X.1 X.2.1 dX5_ever_25 (by decide) (fun c4 => ?_) (fun c4 => ?_)
        · have hf := ifp hf c4
          obtain ⟨x5, ex5, hf⟩ := nm_of hf
          refine lv_iinc (v := x5) (lv' := [(2, .int x5), (0, .ref (qa 0)), (1, .int v1_1)]) X.1 X.2.1 dX5_ever_34 hl (k := 2) rfl (by rw [ex5]; rfl) (by decide) rfl (fun ls hl => ?_)
          refine lv_goto (tgt := 4) X.1 X.2.1 dX5_ever_37 (by decide) ?_
          exact ih1 v1_1 x5 _ _ _ hf hP hS (lv_sub hl [1, 2, 0] rfl)
        · have hf := ifn hf c4
          refine lv_iload_n X.1 X.2.1 dX5_ever_28 rfl (lv_at hl 1 rfl) ?_
          refine lv_iconst (v := 1) X.1 X.2.1 dX5_ever_29 (by decide) ?_
          refine lv_iload_n X.1 X.2.1 dX5_ever_30 rfl (lv_at hl 2 rfl) ?_
          refine lv_ishl X.1 X.2.1 dX5_ever_31 ?_
          refine lv_ior X.1 X.2.1 dX5_ever_32 ?_
          obtain ⟨x6, ex6, hf⟩ := nm_of hf
          refine lv_top_as ex6 ?_
          refine lv_istore_n (lv' := [(1, .int x6), (0, .ref (qa 0)), (2, .int v2_1)]) X.1 X.2.1 dX5_ever_33 rfl hl (by decide) rfl (fun ls hl => ?_)
          obtain ⟨x7, ex7, hf⟩ := nm_of hf
          refine lv_iinc (v := x7) (lv' := [(2, .int x7), (1, .int x6), (0, .ref (qa 0))]) X.1 X.2.1 dX5_ever_34 hl (k := 2) rfl (by rw [ex7]; rfl) (by decide) rfl (fun ls hl => ?_)
          refine lv_goto (tgt := 4) X.1 X.2.1 dX5_ever_37 (by decide) ?_
          exact ih1 x6 x7 _ _ _ hf hP hS (lv_sub hl [2, 1, 0] rfl)
  exact lp1 FU 0 0 _ _ _ hf hP hS (lv_sub hl [2, 1, 0] rfl)
def fX5_isLane (p1 : Int32)   : Option Int32 := if p1 < 0 then (some 0) else (if 3 < p1 then (some 0) else (some 1))
set_option maxHeartbeats 4000000 in
set_option maxRecDepth 100000 in
theorem ct_X5_isLane {l : Launch} {D : va_G} {g : Nat → ClassId} {qa : Nat → Nat} {E0 : Nat → va_E} {p1 : Int32} {R : Int32} (hf : fX5_isLane p1 = some R) : MI l yX5_isLane wsX5_isLane 0 D g qa E0 [.int p1] R (fun E => E = E0) := by
  refine MI.mk (by decide) rfl (Nat.le_of_ble_eq_true rfl) ?_
  intro p e s m args below meth c ls Q X hret hP hS hl
  have hl : lv_has ls 1 [(0, .int p1)] := hl
  rw [fX5_isLane] at hf
  refine lv_iload_n X.1 X.2.1 dX5_isLane_0 rfl (lv_at hl 0 rfl) ?_
  refine lv_if_lt (tgt := 13) X.1 X.2.1 dX5_isLane_1 (by decide) (fun c1 => ?_) (fun c1 => ?_)
  · have hf := ifp hf c1
    refine lv_iconst (v := 0) X.1 X.2.1 dX5_isLane_13 (by decide) ?_
    obtain rfl := Option.some.inj hf
    exact hret _ _ _ _ _ _ dX5_isLane_14 rfl rfl (rfl) hP hS
  · have hf := ifn hf c1
    refine lv_iload_n X.1 X.2.1 dX5_isLane_4 rfl (lv_at hl 0 rfl) ?_
    refine lv_iconst (v := 3) X.1 X.2.1 dX5_isLane_5 (by decide) ?_
    refine lv_icmp_gt (tgt := 13) X.1 X.2.1 dX5_isLane_6 (by decide) (fun c2 => ?_) (fun c2 => ?_)
    · have hf := ifp hf c2
      refine lv_iconst (v := 0) X.1 X.2.1 dX5_isLane_13 (by decide) ?_
      obtain rfl := Option.some.inj hf
      exact hret _ _ _ _ _ _ dX5_isLane_14 rfl rfl (rfl) hP hS
    · have hf := ifn hf c2
      refine lv_iconst (v := 1) X.1 X.2.1 dX5_isLane_9 (by decide) ?_
      refine lv_goto (tgt := 14) X.1 X.2.1 dX5_isLane_10 (by decide) ?_
      obtain rfl := Option.some.inj hf
      exact hret _ _ _ _ _ _ dX5_isLane_14 rfl rfl (rfl) hP hS
def bX5_trialIsTold_14 (md_t : Int32) (day_t : Int32) (bu_t : Nat → Int32) (ki_t : Nat → Int32) (we_t : Nat → Int32) (wo_t : Nat → Int32) (wr_t : Nat → Int32) (itm_r : Nat → Int64) (p1 : Int32) (p3 : Int32) (p4 : Int32) (K3 : ((Int32 × Int32)) → Option Int32) : ((Int32 × Int32)) → Option Int32
  | (v5_3, v6_3) => if p4 ≤ v6_3 then (some 1) else ((fX1_strengthAfter p1 v5_3 (day_t + v6_3) md_t bu_t ki_t we_t wo_t wr_t).bind (fun r5 => gin (p3 + v6_3) 24 (if (lg_cmp (itm_r (Int32.toNatClampNeg (p3 + v6_3))) (Int32.toInt64 r5)) = 0 then (nm (v6_3 + 1) (fun x8 => K3 (r5, x8))) else (some 0))))
def fX5_trialIsTold (p1 : Int32) (p3 : Int32) (p4 : Int32)  (md_t : Int32) (day_t : Int32) (bu_t : Nat → Int32) (st_t : Nat → Int32) (ki_t : Nat → Int32) (we_t : Nat → Int32) (wo_t : Nat → Int32) (wr_t : Nat → Int32) (itm_r : Nat → Int64) : Option Int32 := gin p1 5 (nm (st_t (Int32.toNatClampNeg p1)) (fun x2 => lp (bX5_trialIsTold_14 md_t day_t bu_t ki_t we_t wo_t wr_t itm_r p1 p3 p4) FU (x2, 0)))
theorem in_X5_trialIsTold_X1 : ∀ w ∈ wsX10, w ∈ wsX5_trialIsTold := by decide +kernel
theorem in_X5_trialIsTold_X3 : ∀ w ∈ wsX30, w ∈ wsX5_trialIsTold := by decide +kernel
theorem in_X5_trialIsTold_X5 : ∀ w ∈ wsX50, w ∈ wsX5_trialIsTold := by decide +kernel
set_option maxHeartbeats 4000000 in
set_option maxRecDepth 100000 in
theorem ct_X5_trialIsTold {l : Launch} {D : va_G} {g : Nat → ClassId} {qa : Nat → Nat} {E0 : Nat → va_E} {j0 : Nat} {p1 : Int32} {p3 : Int32} {p4 : Int32} {img_x : Int32} {men_t : Int32} {md_t : Int32} {day_t : Int32} {drw_t : Int32} {bu_t : Nat → Int32} {st_t : Nat → Int32} {ki_t : Nat → Int32} {we_t : Nat → Int32} {wo_t : Nat → Int32} {wr_t : Nat → Int32} {th_r : Int32} {lan_r : Int32} {siz_r : Int32} {itm_r : Nat → Int64} (hG_x : Xo g qa E0 0 img_x) (hG_t : Mu g qa E0 35 men_t md_t day_t drw_t bu_t st_t ki_t we_t wo_t wr_t) (hb_r : j0 < 4) (hG_r : Ro g qa E0 j0 th_r lan_r siz_r itm_r) {R : Int32} (hf : fX5_trialIsTold p1 p3 p4 md_t day_t bu_t st_t ki_t we_t wo_t wr_t itm_r = some R) : MI l yX5_trialIsTold wsX5_trialIsTold 4 D g qa E0 [.ref (qa 0), .int p1, .ref (qa (56 + j0)), .int p3, .int p4] R (fun E => E = E0) := by
  refine MI.mk (by decide) rfl (Nat.le_of_ble_eq_true rfl) ?_
  intro p e s m args below meth c ls Q X hret hP hS hl
  have hl : lv_has ls 7 [(0, .ref (qa 0)), (1, .int p1), (2, .ref (qa (56 + j0))), (3, .int p3), (4, .int p4)] := hl
  rw [fX5_trialIsTold] at hf
  refine lv_aload_n X.1 X.2.1 dX5_trialIsTold_0 rfl (lv_at hl 0 rfl) ?_
  refine x_get X hP hG_x (by omega) rfl in_X5_trialIsTold_X5 5 (by decide) (by decide +kernel) rfl rfl dX5_trialIsTold_1 ?_
  refine x_get X hP hG_t.1 (by omega) rfl in_X5_trialIsTold_X1 2 (by decide) (by decide +kernel) rfl rfl dX5_trialIsTold_4 ?_
  refine lv_iload_n X.1 X.2.1 dX5_trialIsTold_7 rfl (lv_at hl 1 rfl) ?_
  obtain ⟨hi1, hf⟩ := gin_of hf
  refine x_iald X hP hG_t.2.2.1 (by omega) hi1 dX5_trialIsTold_8 ?_
  obtain ⟨x2, ex2, hf⟩ := nm_of hf
  refine lv_top_as ex2 ?_
  refine lv_istore (lv' := [(5, .int x2), (0, .ref (qa 0)), (1, .int p1), (2, .ref (qa (56 + j0))), (3, .int p3), (4, .int p4)]) X.1 X.2.1 dX5_trialIsTold_9 hl (by decide) rfl (fun ls hl => ?_)
  refine lv_iconst (v := 0) X.1 X.2.1 dX5_trialIsTold_11 (by decide) ?_
  refine lv_istore (lv' := [(6, .int 0), (5, .int x2), (0, .ref (qa 0)), (1, .int p1), (2, .ref (qa (56 + j0))), (3, .int p3), (4, .int p4)]) X.1 X.2.1 dX5_trialIsTold_12 hl (by decide) rfl (fun ls hl => ?_)
  have lp3 : ∀ (n3 : Nat) (v5_3 : Int32) (v6_3 : Int32) (H : Heap) (locs : List Loc) (ls : Array Slot), lp (bX5_trialIsTold_14 md_t day_t bu_t ki_t we_t wo_t wr_t itm_r p1 p3 p4) n3 (v5_3, v6_3) = some R → va_P D vwCl (WD qa E0) H → va_S (gA qa s.heap.size) s.heap H locs → lv_has ls 7 [(0, .ref (qa 0)), (1, .int p1), (2, .ref (qa (56 + j0))), (3, .int p3), (4, .int p4), (5, .int v5_3), (6, .int v6_3)] → W p l e (rmf 4) s m args below meth c H locs 0 0 Q (F0 m 14 ls []) := by
    intro n3
    induction n3 with
    | zero =>
      intro v5_3 v6_3 H locs ls hf
      exact absurd hf (by intro h; cases h)
    | succ n3 ih3 =>
      intro v5_3 v6_3 H locs ls hf hP hS hl
      have hf : bX5_trialIsTold_14 md_t day_t bu_t ki_t we_t wo_t wr_t itm_r p1 p3 p4 (lp (bX5_trialIsTold_14 md_t day_t bu_t ki_t we_t wo_t wr_t itm_r p1 p3 p4) n3) (v5_3, v6_3) = some R := hf
      rw [bX5_trialIsTold_14] at hf
      refine lv_iload X.1 X.2.1 dX5_trialIsTold_14 (lv_at hl 6 rfl) ?_
      refine lv_iload X.1 X.2.1 dX5_trialIsTold_16 (lv_at hl 4 rfl) ?_
      refine lv_icmp_ge (tgt := 67) X.1 X.2.1 dX5_trialIsTold_18 (by decide) (fun c4 => ?_) (fun c4 => ?_)
      · have hf := ifp hf c4
        refine lv_iconst (v := 1) X.1 X.2.1 dX5_trialIsTold_67 (by decide) ?_
        obtain rfl := Option.some.inj hf
        exact hret _ _ _ _ _ _ dX5_trialIsTold_68 rfl rfl (rfl) hP hS
      · have hf := ifn hf c4
        refine lv_aload_n X.1 X.2.1 dX5_trialIsTold_21 rfl (lv_at hl 0 rfl) ?_
        refine x_get X hP hG_x (by omega) rfl in_X5_trialIsTold_X5 5 (by decide) (by decide +kernel) rfl rfl dX5_trialIsTold_22 ?_
        refine lv_iload_n X.1 X.2.1 dX5_trialIsTold_25 rfl (lv_at hl 1 rfl) ?_
        refine lv_iload X.1 X.2.1 dX5_trialIsTold_26 (lv_at hl 5 rfl) ?_
        refine lv_aload_n X.1 X.2.1 dX5_trialIsTold_28 rfl (lv_at hl 0 rfl) ?_
        refine x_get X hP hG_x (by omega) rfl in_X5_trialIsTold_X5 5 (by decide) (by decide +kernel) rfl rfl dX5_trialIsTold_29 ?_
        refine x_get X hP hG_t.1 (by omega) rfl in_X5_trialIsTold_X1 8 (by decide) (by decide +kernel) rfl rfl dX5_trialIsTold_32 ?_
        refine lv_iload X.1 X.2.1 dX5_trialIsTold_35 (lv_at hl 6 rfl) ?_
        refine lv_iadd X.1 X.2.1 dX5_trialIsTold_37 ?_
        obtain ⟨r5, hr5, hf⟩ := bd_of hf
        refine x_rdVi X hP hS hG_t.1 (by omega) rfl (n := 3) (As := [.int p1, .int v5_3, .int (day_t + v6_3)]) (ct_X1_strengthAfter (by omega) hG_t hr5) gX5_trialIsTold_X1_strengthAfter rfl (by decide +kernel) ⟨by decide, by decide⟩ rfl hl.1 rfl (Nat.le_of_ble_eq_true rfl) dX5_trialIsTold_38 (fun H locs hP hS => ?_)
        refine lv_istore (lv' := [(5, .int r5), (0, .ref (qa 0)), (1, .int p1), (2, .ref (qa (56 + j0))), (3, .int p3), (4, .int p4), (6, .int v6_3)]) X.1 X.2.1 dX5_trialIsTold_41 hl (by decide) rfl (fun ls hl => ?_)
        refine lv_aload_n X.1 X.2.1 dX5_trialIsTold_43 rfl (lv_at hl 3 rfl) ?_
        refine x_get X hP hG_r.1 (by omega) rfl in_X5_trialIsTold_X3 3 (by decide) (by decide +kernel) rfl rfl dX5_trialIsTold_44 ?_
        refine lv_iload_n X.1 X.2.1 dX5_trialIsTold_47 rfl (lv_at hl 4 rfl) ?_
        refine lv_iload X.1 X.2.1 dX5_trialIsTold_48 (lv_at hl 6 rfl) ?_
        refine lv_iadd X.1 X.2.1 dX5_trialIsTold_50 ?_
        obtain ⟨hi6, hf⟩ := gin_of hf
        refine x_lald X hP hG_r.2 (by omega) hi6 dX5_trialIsTold_51 ?_
        refine lv_iload X.1 X.2.1 dX5_trialIsTold_52 (lv_at hl 0 rfl) ?_
        refine lv_i2l X.1 X.2.1 dX5_trialIsTold_54 rfl ?_
        refine W.lcmp X.1 X.2.1 dX5_trialIsTold_55 ?_
        refine lv_if_eq (tgt := 61) X.1 X.2.1 dX5_trialIsTold_56 (by decide) (fun c7 => ?_) (fun c7 => ?_)
        · have hf := ifp hf c7
          obtain ⟨x8, ex8, hf⟩ := nm_of hf
          refine lv_iinc (v := x8) (lv' := [(6, .int x8), (5, .int r5), (0, .ref (qa 0)), (1, .int p1), (2, .ref (qa (56 + j0))), (3, .int p3), (4, .int p4)]) X.1 X.2.1 dX5_trialIsTold_61 hl (k := 6) rfl (by rw [ex8]; rfl) (by decide) rfl (fun ls hl => ?_)
          refine lv_goto (tgt := 14) X.1 X.2.1 dX5_trialIsTold_64 (by decide) ?_
          exact ih3 r5 x8 _ _ _ hf hP hS (lv_sub hl [2, 3, 4, 5, 6, 1, 0] rfl)
        · have hf := ifn hf c7
          refine lv_iconst (v := 0) X.1 X.2.1 dX5_trialIsTold_59 (by decide) ?_
          obtain rfl := Option.some.inj hf
          exact hret _ _ _ _ _ _ dX5_trialIsTold_60 rfl rfl (rfl) hP hS
  exact lp3 FU x2 0 _ _ _ hf hP hS (lv_sub hl [2, 3, 4, 5, 6, 1, 0] rfl)
def bX5_felt_190 (itm_r : Nat → Nat → Int64) (p1 : Int32) (p2 : Int32) (p3 : Int32) (p5 : Int32) (p6 : Int32) (x19 : Int32) (r20 : (Int32 × Int32 × Int32 × Int32 × (Nat → Int32) × (Nat → Int32) × (Nat → Int32) × (Nat → Int32) × (Nat → Int32) × (Nat → Int32))) (K21 : ((Int32 × Int32 × (Nat → Int32) × (Nat → Int32) × (Nat → Int32))) → Option (Int32 × Int32 × Int32 × Int32 × Int32 × (Nat → Int32) × (Nat → Int32) × (Nat → Int32) × (Nat → Int32) × (Nat → Int32) × (Nat → Int32))) : ((Int32 × Int32 × (Nat → Int32) × (Nat → Int32) × (Nat → Int32))) → Option (Int32 × Int32 × Int32 × Int32 × Int32 × (Nat → Int32) × (Nat → Int32) × (Nat → Int32) × (Nat → Int32) × (Nat → Int32) × (Nat → Int32))
  | (v12_21, v13_21, ki_t_21, we_t_21, wo_t_21) => if x19 < v13_21 then (some (v12_21, r20.1, r20.2.1, r20.2.2.1, r20.2.2.2.1, r20.2.2.2.2.1, r20.2.2.2.2.2.1, ki_t_21, we_t_21, wo_t_21, r20.2.2.2.2.2.2.2.2.2)) else (gin p2 6 (gin p3 4 ((fX5_trialIsTold p1 p5 p6 r20.2.1 r20.2.2.1 r20.2.2.2.2.1 r20.2.2.2.2.2.1 ki_t_21 we_t_21 (upd wo_t_21 (Int32.toNatClampNeg p2) v13_21) r20.2.2.2.2.2.2.2.2.2 (itm_r (Int32.toNatClampNeg p3))).bind (fun r26 => if r26 = 0 then (nm (v13_21 + 1) (fun x28 => K21 (v12_21, x28, ki_t_21, we_t_21, upd wo_t_21 (Int32.toNatClampNeg p2) v13_21))) else (nm (v12_21 ||| (1 <<< (v13_21 &&& 31))) (fun x29 => nm (v13_21 + 1) (fun x30 => K21 (x29, x30, ki_t_21, we_t_21, upd wo_t_21 (Int32.toNatClampNeg p2) v13_21))))))))
def bX5_felt_190_1 (itm_r : Nat → Nat → Int64) (p1 : Int32) (p2 : Int32) (p3 : Int32) (p5 : Int32) (p6 : Int32) (r31 : (Int32 × Int32 × Int32 × Int32 × (Nat → Int32) × (Nat → Int32) × (Nat → Int32) × (Nat → Int32) × (Nat → Int32) × (Nat → Int32))) (K32 : ((Int32 × Int32 × (Nat → Int32) × (Nat → Int32) × (Nat → Int32))) → Option (Int32 × Int32 × Int32 × Int32 × Int32 × (Nat → Int32) × (Nat → Int32) × (Nat → Int32) × (Nat → Int32) × (Nat → Int32) × (Nat → Int32))) : ((Int32 × Int32 × (Nat → Int32) × (Nat → Int32) × (Nat → Int32))) → Option (Int32 × Int32 × Int32 × Int32 × Int32 × (Nat → Int32) × (Nat → Int32) × (Nat → Int32) × (Nat → Int32) × (Nat → Int32) × (Nat → Int32))
  | (v12_32, v13_32, ki_t_32, we_t_32, wo_t_32) => if 4 < v13_32 then (some (v12_32, r31.1, r31.2.1, r31.2.2.1, r31.2.2.2.1, r31.2.2.2.2.1, r31.2.2.2.2.2.1, ki_t_32, we_t_32, wo_t_32, r31.2.2.2.2.2.2.2.2.2)) else (gin p2 6 (gin p3 4 ((fX5_trialIsTold p1 p5 p6 r31.2.1 r31.2.2.1 r31.2.2.2.2.1 r31.2.2.2.2.2.1 (upd ki_t_32 (Int32.toNatClampNeg p2) v13_32) we_t_32 wo_t_32 r31.2.2.2.2.2.2.2.2.2 (itm_r (Int32.toNatClampNeg p3))).bind (fun r37 => if r37 = 0 then (nm (v13_32 + 1) (fun x39 => K32 (v12_32, x39, upd ki_t_32 (Int32.toNatClampNeg p2) v13_32, we_t_32, wo_t_32))) else (nm (v12_32 ||| (1 <<< (v13_32 &&& 31))) (fun x40 => nm (v13_32 + 1) (fun x41 => K32 (x40, x41, upd ki_t_32 (Int32.toNatClampNeg p2) v13_32, we_t_32, wo_t_32))))))))
def bX5_felt_190_2 (itm_r : Nat → Nat → Int64) (p1 : Int32) (p2 : Int32) (p3 : Int32) (p5 : Int32) (p6 : Int32) (r43 : (Int32 × Int32 × Int32 × Int32 × (Nat → Int32) × (Nat → Int32) × (Nat → Int32) × (Nat → Int32) × (Nat → Int32) × (Nat → Int32))) (K44 : ((Int32 × Int32 × (Nat → Int32) × (Nat → Int32) × (Nat → Int32))) → Option (Int32 × Int32 × Int32 × Int32 × Int32 × (Nat → Int32) × (Nat → Int32) × (Nat → Int32) × (Nat → Int32) × (Nat → Int32) × (Nat → Int32))) : ((Int32 × Int32 × (Nat → Int32) × (Nat → Int32) × (Nat → Int32))) → Option (Int32 × Int32 × Int32 × Int32 × Int32 × (Nat → Int32) × (Nat → Int32) × (Nat → Int32) × (Nat → Int32) × (Nat → Int32) × (Nat → Int32))
  | (v12_44, v13_44, ki_t_44, we_t_44, wo_t_44) => if 20 < v13_44 then (some (v12_44, r43.1, r43.2.1, r43.2.2.1, r43.2.2.2.1, r43.2.2.2.2.1, r43.2.2.2.2.2.1, ki_t_44, we_t_44, wo_t_44, r43.2.2.2.2.2.2.2.2.2)) else (gin p2 6 (gin p3 4 ((fX5_trialIsTold p1 p5 p6 r43.2.1 r43.2.2.1 r43.2.2.2.2.1 r43.2.2.2.2.2.1 ki_t_44 (upd we_t_44 (Int32.toNatClampNeg p2) v13_44) wo_t_44 r43.2.2.2.2.2.2.2.2.2 (itm_r (Int32.toNatClampNeg p3))).bind (fun r49 => if r49 = 0 then (nm (v13_44 + 1) (fun x51 => K44 (v12_44, x51, ki_t_44, upd we_t_44 (Int32.toNatClampNeg p2) v13_44, wo_t_44))) else (nm (v12_44 ||| (1 <<< (v13_44 &&& 31))) (fun x52 => nm (v13_44 + 1) (fun x53 => K44 (x52, x53, ki_t_44, upd we_t_44 (Int32.toNatClampNeg p2) v13_44, wo_t_44))))))))
def bX5_felt_190_3 (itm_r : Nat → Nat → Int64) (p1 : Int32) (p2 : Int32) (p3 : Int32) (p5 : Int32) (p6 : Int32) (r54 : (Int32 × Int32 × Int32 × Int32 × (Nat → Int32) × (Nat → Int32) × (Nat → Int32) × (Nat → Int32) × (Nat → Int32) × (Nat → Int32))) (K55 : ((Int32 × Int32 × (Nat → Int32) × (Nat → Int32) × (Nat → Int32))) → Option (Int32 × Int32 × Int32 × Int32 × Int32 × (Nat → Int32) × (Nat → Int32) × (Nat → Int32) × (Nat → Int32) × (Nat → Int32) × (Nat → Int32))) : ((Int32 × Int32 × (Nat → Int32) × (Nat → Int32) × (Nat → Int32))) → Option (Int32 × Int32 × Int32 × Int32 × Int32 × (Nat → Int32) × (Nat → Int32) × (Nat → Int32) × (Nat → Int32) × (Nat → Int32) × (Nat → Int32))
  | (v12_55, v13_55, ki_t_55, we_t_55, wo_t_55) => if 4 < v13_55 then (some (v12_55, r54.1, r54.2.1, r54.2.2.1, r54.2.2.2.1, r54.2.2.2.2.1, r54.2.2.2.2.2.1, ki_t_55, we_t_55, wo_t_55, r54.2.2.2.2.2.2.2.2.2)) else (gin p2 6 (gin p3 4 ((fX5_trialIsTold p1 p5 p6 r54.2.1 r54.2.2.1 r54.2.2.2.2.1 r54.2.2.2.2.2.1 (upd ki_t_55 (Int32.toNatClampNeg p2) v13_55) we_t_55 wo_t_55 r54.2.2.2.2.2.2.2.2.2 (itm_r (Int32.toNatClampNeg p3))).bind (fun r60 => if r60 = 0 then (nm (v13_55 + 1) (fun x62 => K55 (v12_55, x62, upd ki_t_55 (Int32.toNatClampNeg p2) v13_55, we_t_55, wo_t_55))) else (nm (v12_55 ||| (1 <<< (v13_55 &&& 31))) (fun x63 => nm (v13_55 + 1) (fun x64 => K55 (x63, x64, upd ki_t_55 (Int32.toNatClampNeg p2) v13_55, we_t_55, wo_t_55))))))))
def fX5_felt (p1 : Int32) (p2 : Int32) (p3 : Int32) (p4 : Int32) (p5 : Int32) (p6 : Int32) (p7 : Int32)  (men_n : Int32) (md_n : Int32) (day_n : Int32) (drw_n : Int32) (bu_n : Nat → Int32) (st_n : Nat → Int32) (ki_n : Nat → Int32) (we_n : Nat → Int32) (wo_n : Nat → Int32) (wr_n : Nat → Int32) (men_t : Int32) (md_t : Int32) (day_t : Int32) (drw_t : Int32) (bu_t : Nat → Int32) (st_t : Nat → Int32) (ki_t : Nat → Int32) (we_t : Nat → Int32) (wo_t : Nat → Int32) (wr_t : Nat → Int32) (th_r : Nat → Int32) (lan_r : Nat → Int32) (siz_r : Nat → Int32) (itm_r : Nat → Nat → Int64) : Option (Int32 × Int32 × Int32 × Int32 × Int32 × (Nat → Int32) × (Nat → Int32) × (Nat → Int32) × (Nat → Int32) × (Nat → Int32) × (Nat → Int32)) := (fX1_hasMan p1 men_n).bind (fun r1 => if r1 = 0 then (some ((-1), men_t, md_t, day_t, drw_t, bu_t, st_t, ki_t, we_t, wo_t, wr_t)) else ((fX1_hasMedal p2 md_n).bind (fun r3 => if r3 = 0 then (some ((-1), men_t, md_t, day_t, drw_t, bu_t, st_t, ki_t, we_t, wo_t, wr_t)) else ((fX5_isSheet p3).bind (fun r5 => if r5 = 0 then (some ((-1), men_t, md_t, day_t, drw_t, bu_t, st_t, ki_t, we_t, wo_t, wr_t)) else ((fX5_isLane p4).bind (fun r7 => if r7 = 0 then (some ((-1), men_t, md_t, day_t, drw_t, bu_t, st_t, ki_t, we_t, wo_t, wr_t)) else (if p6 < 1 then (some ((-1), men_t, md_t, day_t, drw_t, bu_t, st_t, ki_t, we_t, wo_t, wr_t)) else (if 8 < p6 then (some ((-1), men_t, md_t, day_t, drw_t, bu_t, st_t, ki_t, we_t, wo_t, wr_t)) else (if p7 < 0 then (some ((-1), men_t, md_t, day_t, drw_t, bu_t, st_t, ki_t, we_t, wo_t, wr_t)) else (if p7 ≤ 2 then (gin p3 4 ((fX3_refuses p4 p5 p6 (th_r (Int32.toNatClampNeg p3)) (lan_r (Int32.toNatClampNeg p3)) (siz_r (Int32.toNatClampNeg p3))).bind (fun r15 => if r15 = 0 then (if p7 = 1 then (if p7 = 0 then ((fX1_take bu_t st_t ki_t we_t wo_t wr_t men_n md_n day_n drw_n bu_n st_n ki_n we_n wo_n wr_n).bind (fun r54 => lp (bX5_felt_190_3 itm_r p1 p2 p3 p5 p6 r54) FU (0, 1, r54.2.2.2.2.2.2.1, r54.2.2.2.2.2.2.2.1, r54.2.2.2.2.2.2.2.2.1))) else ((fX1_take bu_t st_t ki_t we_t wo_t wr_t men_n md_n day_n drw_n bu_n st_n ki_n we_n wo_n wr_n).bind (fun r43 => lp (bX5_felt_190_2 itm_r p1 p2 p3 p5 p6 r43) FU (0, 1, r43.2.2.2.2.2.2.1, r43.2.2.2.2.2.2.2.1, r43.2.2.2.2.2.2.2.2.1)))) else (if p7 = 0 then ((fX1_take bu_t st_t ki_t we_t wo_t wr_t men_n md_n day_n drw_n bu_n st_n ki_n we_n wo_n wr_n).bind (fun r31 => lp (bX5_felt_190_1 itm_r p1 p2 p3 p5 p6 r31) FU (0, 0, r31.2.2.2.2.2.2.1, r31.2.2.2.2.2.2.2.1, r31.2.2.2.2.2.2.2.2.1))) else (nm (men_n - 1) (fun x19 => (fX1_take bu_t st_t ki_t we_t wo_t wr_t men_n md_n day_n drw_n bu_n st_n ki_n we_n wo_n wr_n).bind (fun r20 => lp (bX5_felt_190 itm_r p1 p2 p3 p5 p6 x19 r20) FU (0, 0, r20.2.2.2.2.2.2.1, r20.2.2.2.2.2.2.2.1, r20.2.2.2.2.2.2.2.2.1)))))) else (some (r15, men_t, md_t, day_t, drw_t, bu_t, st_t, ki_t, we_t, wo_t, wr_t))))) else (some ((-1), men_t, md_t, day_t, drw_t, bu_t, st_t, ki_t, we_t, wo_t, wr_t)))))))))))))
theorem in_X5_felt_X1 : ∀ w ∈ wsX10, w ∈ wsX5_felt := by decide +kernel
theorem in_X5_felt_X3 : ∀ w ∈ wsX30, w ∈ wsX5_felt := by decide +kernel
theorem in_X5_felt_X5 : ∀ w ∈ wsX50, w ∈ wsX5_felt := by decide +kernel
set_option maxHeartbeats 4000000 in
set_option maxRecDepth 100000 in
theorem ct_X5_felt {l : Launch} {D : va_G} {g : Nat → ClassId} {qa : Nat → Nat} {E0 : Nat → va_E} {p1 : Int32} {p2 : Int32} {p3 : Int32} {p4 : Int32} {p5 : Int32} {p6 : Int32} {p7 : Int32} {img_x : Int32} {men_n : Int32} {md_n : Int32} {day_n : Int32} {drw_n : Int32} {bu_n : Nat → Int32} {st_n : Nat → Int32} {ki_n : Nat → Int32} {we_n : Nat → Int32} {wo_n : Nat → Int32} {wr_n : Nat → Int32} {men_t : Int32} {md_t : Int32} {day_t : Int32} {drw_t : Int32} {bu_t : Nat → Int32} {st_t : Nat → Int32} {ki_t : Nat → Int32} {we_t : Nat → Int32} {wo_t : Nat → Int32} {wr_t : Nat → Int32} {th_r : Nat → Int32} {lan_r : Nat → Int32} {siz_r : Nat → Int32} {itm_r : Nat → Nat → Int64} (hG_x : Xo g qa E0 0 img_x) (hG_n : Mu g qa E0 1 men_n md_n day_n drw_n bu_n st_n ki_n we_n wo_n wr_n) (hG_t : Mu g qa E0 35 men_t md_t day_t drw_t bu_t st_t ki_t we_t wo_t wr_t) (hG_r : Rs g qa E0 55 th_r lan_r siz_r itm_r) {R : (Int32 × Int32 × Int32 × Int32 × Int32 × (Nat → Int32) × (Nat → Int32) × (Nat → Int32) × (Nat → Int32) × (Nat → Int32) × (Nat → Int32))} (hf : fX5_felt p1 p2 p3 p4 p5 p6 p7 men_n md_n day_n drw_n bu_n st_n ki_n we_n wo_n wr_n men_t md_t day_t drw_t bu_t st_t ki_t we_t wo_t wr_t th_r lan_r siz_r itm_r = some R) : MI l yX5_felt wsX5_felt 5 D g qa E0 [.ref (qa 0), .int p1, .int p2, .int p3, .int p4, .int p5, .int p6, .int p7] R.1 (fun E => Mu g qa E 35 R.2.1 R.2.2.1 R.2.2.2.1 R.2.2.2.2.1 R.2.2.2.2.2.1 R.2.2.2.2.2.2.1 R.2.2.2.2.2.2.2.1 R.2.2.2.2.2.2.2.2.1 R.2.2.2.2.2.2.2.2.2.1 R.2.2.2.2.2.2.2.2.2.2 ∧ ∀ j, (j < 35 ∨ 42 ≤ j) → E j = E0 j) := by
  refine MI.mk (by decide) rfl (Nat.le_of_ble_eq_true rfl) ?_
  intro p e s m args below meth c ls Q X hret hP hS hl
  have hl : lv_has ls 14 [(0, .ref (qa 0)), (1, .int p1), (2, .int p2), (3, .int p3), (4, .int p4), (5, .int p5), (6, .int p6), (7, .int p7)] := hl
  have hfr : ∀ j, (j < 35 ∨ 42 ≤ j) → E0 j = E0 j := fun _ _ => rfl
  rw [fX5_felt] at hf
  refine lv_aload_n X.1 X.2.1 dX5_felt_0 rfl (lv_at hl 0 rfl) ?_
  refine x_get X hP hG_x (by omega) rfl in_X5_felt_X5 0 (by decide) (by decide +kernel) rfl rfl dX5_felt_1 ?_
  refine lv_iload_n X.1 X.2.1 dX5_felt_4 rfl (lv_at hl 1 rfl) ?_
  obtain ⟨r1, hr1, hf⟩ := bd_of hf
  refine x_rdVi X hP hS hG_n.1 (by omega) rfl (n := 1) (As := [.int p1]) (ct_X1_hasMan (by omega) hG_n hr1) gX5_felt_X1_hasMan rfl (by decide +kernel) ⟨by decide, by decide⟩ rfl hl.1 rfl (Nat.le_of_ble_eq_true rfl) dX5_felt_5 (fun H locs hP hS => ?_)
  refine lv_if_eq (tgt := 61) X.1 X.2.1 dX5_felt_8 (by decide) (fun c2 => ?_) (fun c2 => ?_)
  · have hf := ifp hf c2
    refine lv_iconst (v := (-1)) X.1 X.2.1 dX5_felt_61 (by decide) ?_
    obtain rfl := Option.some.inj hf
    exact hret _ _ _ _ _ _ dX5_felt_62 rfl rfl (⟨hG_t, hfr⟩) hP hS
  · have hf := ifn hf c2
    refine lv_aload_n X.1 X.2.1 dX5_felt_11 rfl (lv_at hl 0 rfl) ?_
    refine x_get X hP hG_x (by omega) rfl in_X5_felt_X5 0 (by decide) (by decide +kernel) rfl rfl dX5_felt_12 ?_
    refine lv_iload_n X.1 X.2.1 dX5_felt_15 rfl (lv_at hl 2 rfl) ?_
    obtain ⟨r3, hr3, hf⟩ := bd_of hf
    refine x_rdVi X hP hS hG_n.1 (by omega) rfl (n := 1) (As := [.int p2]) (ct_X1_hasMedal (by omega) hG_n hr3) gX5_felt_X1_hasMedal rfl (by decide +kernel) ⟨by decide, by decide⟩ rfl hl.1 rfl (Nat.le_of_ble_eq_true rfl) dX5_felt_16 (fun H locs hP hS => ?_)
    refine lv_if_eq (tgt := 61) X.1 X.2.1 dX5_felt_19 (by decide) (fun c4 => ?_) (fun c4 => ?_)
    · have hf := ifp hf c4
      refine lv_iconst (v := (-1)) X.1 X.2.1 dX5_felt_61 (by decide) ?_
      obtain rfl := Option.some.inj hf
      exact hret _ _ _ _ _ _ dX5_felt_62 rfl rfl (⟨hG_t, hfr⟩) hP hS
    · have hf := ifn hf c4
      refine lv_iload_n X.1 X.2.1 dX5_felt_22 rfl (lv_at hl 3 rfl) ?_
      obtain ⟨r5, hr5, hf⟩ := bd_of hf
      refine x_rdSi X hP hS (index := 235) (n := 1) (As := [.int p3]) (ct_X5_isSheet  hr5) ggX5_felt_X5_isSheet (by decide +kernel) (by decide +kernel) (by decide +kernel) rfl (by decide +kernel) ⟨by decide, by decide⟩ rfl hl.1 rfl (Nat.le_of_ble_eq_true rfl) dX5_felt_23 (fun H locs hP hS => ?_)
      refine lv_if_eq (tgt := 61) X.1 X.2.1 dX5_felt_26 (by decide) (fun c6 => ?_) (fun c6 => ?_)
      · have hf := ifp hf c6
        refine lv_iconst (v := (-1)) X.1 X.2.1 dX5_felt_61 (by decide) ?_
        obtain rfl := Option.some.inj hf
        exact hret _ _ _ _ _ _ dX5_felt_62 rfl rfl (⟨hG_t, hfr⟩) hP hS
      · have hf := ifn hf c6
        refine lv_iload X.1 X.2.1 dX5_felt_29 (lv_at hl 4 rfl) ?_
        obtain ⟨r7, hr7, hf⟩ := bd_of hf
        refine x_rdSi X hP hS (index := 238) (n := 1) (As := [.int p4]) (ct_X5_isLane  hr7) ggX5_felt_X5_isLane (by decide +kernel) (by decide +kernel) (by decide +kernel) rfl (by decide +kernel) ⟨by decide, by decide⟩ rfl hl.1 rfl (Nat.le_of_ble_eq_true rfl) dX5_felt_31 (fun H locs hP hS => ?_)
        refine lv_if_eq (tgt := 61) X.1 X.2.1 dX5_felt_34 (by decide) (fun c8 => ?_) (fun c8 => ?_)
        · have hf := ifp hf c8
          refine lv_iconst (v := (-1)) X.1 X.2.1 dX5_felt_61 (by decide) ?_
          obtain rfl := Option.some.inj hf
          exact hret _ _ _ _ _ _ dX5_felt_62 rfl rfl (⟨hG_t, hfr⟩) hP hS
        · have hf := ifn hf c8
          refine lv_iload X.1 X.2.1 dX5_felt_37 (lv_at hl 6 rfl) ?_
          refine lv_iconst (v := 1) X.1 X.2.1 dX5_felt_39 (by decide) ?_
          refine lv_icmp_lt (tgt := 61) X.1 X.2.1 dX5_felt_40 (by decide) (fun c9 => ?_) (fun c9 => ?_)
          · have hf := ifp hf c9
            refine lv_iconst (v := (-1)) X.1 X.2.1 dX5_felt_61 (by decide) ?_
            obtain rfl := Option.some.inj hf
            exact hret _ _ _ _ _ _ dX5_felt_62 rfl rfl (⟨hG_t, hfr⟩) hP hS
          · have hf := ifn hf c9
            refine lv_iload X.1 X.2.1 dX5_felt_43 (lv_at hl 6 rfl) ?_
            refine lv_bipush (v := 8) X.1 X.2.1 dX5_felt_45 (by decide) ?_
            refine lv_icmp_gt (tgt := 61) X.1 X.2.1 dX5_felt_47 (by decide) (fun c10 => ?_) (fun c10 => ?_)
            · have hf := ifp hf c10
              refine lv_iconst (v := (-1)) X.1 X.2.1 dX5_felt_61 (by decide) ?_
              obtain rfl := Option.some.inj hf
              exact hret _ _ _ _ _ _ dX5_felt_62 rfl rfl (⟨hG_t, hfr⟩) hP hS
            · have hf := ifn hf c10
              refine lv_iload X.1 X.2.1 dX5_felt_50 (lv_at hl 7 rfl) ?_
              refine lv_if_lt (tgt := 61) X.1 X.2.1 dX5_felt_52 (by decide) (fun c11 => ?_) (fun c11 => ?_)
              · have hf := ifp hf c11
                refine lv_iconst (v := (-1)) X.1 X.2.1 dX5_felt_61 (by decide) ?_
                obtain rfl := Option.some.inj hf
                exact hret _ _ _ _ _ _ dX5_felt_62 rfl rfl (⟨hG_t, hfr⟩) hP hS
              · have hf := ifn hf c11
                refine lv_iload X.1 X.2.1 dX5_felt_55 (lv_at hl 7 rfl) ?_
                refine lv_iconst (v := 2) X.1 X.2.1 dX5_felt_57 (by decide) ?_
                refine lv_icmp_le (tgt := 63) X.1 X.2.1 dX5_felt_58 (by decide) (fun c12 => ?_) (fun c12 => ?_)
                · have hf := ifp hf c12
                  refine lv_aload_n X.1 X.2.1 dX5_felt_63 rfl (lv_at hl 0 rfl) ?_
                  refine x_get X hP hG_x (by omega) rfl in_X5_felt_X5 8 (by decide) (by decide +kernel) rfl rfl dX5_felt_64 ?_
                  refine lv_iload_n X.1 X.2.1 dX5_felt_67 rfl (lv_at hl 3 rfl) ?_
                  obtain ⟨hi13, hf⟩ := gin_of hf
                  have hj14 := in_lt hi13
                  refine x_aald X hP 4 rfl rfl hG_r.1 (by omega) hi13 dX5_felt_68 ?_
                  refine lv_iload X.1 X.2.1 dX5_felt_69 (lv_at hl 4 rfl) ?_
                  refine lv_iload X.1 X.2.1 dX5_felt_71 (lv_at hl 5 rfl) ?_
                  refine lv_iload X.1 X.2.1 dX5_felt_73 (lv_at hl 6 rfl) ?_
                  obtain ⟨r15, hr15, hf⟩ := bd_of hf
                  refine x_rdVi X hP hS (hG_r.2.1 _ hj14) (by omega) rfl (n := 3) (As := [.int p4, .int p5, .int p6]) (ct_X3_refuses (by omega) (Ro_of hG_r hj14) hr15) gX5_felt_X3_refuses rfl (by decide +kernel) ⟨by decide, by decide⟩ rfl hl.1 rfl (Nat.le_of_ble_eq_true rfl) dX5_felt_75 (fun H locs hP hS => ?_)
                  refine lv_istore (lv' := [(8, .int r15), (0, .ref (qa 0)), (1, .int p1), (2, .int p2), (3, .int p3), (4, .int p4), (5, .int p5), (6, .int p6), (7, .int p7)]) X.1 X.2.1 dX5_felt_78 hl (by decide) rfl (fun ls hl => ?_)
                  refine lv_iload X.1 X.2.1 dX5_felt_80 (lv_at hl 0 rfl) ?_
                  refine lv_if_eq (tgt := 88) X.1 X.2.1 dX5_felt_82 (by decide) (fun c16 => ?_) (fun c16 => ?_)
                  · have hf := ifp hf c16
                    refine lv_iload X.1 X.2.1 dX5_felt_88 (lv_at hl 8 rfl) ?_
                    refine lv_iconst (v := 1) X.1 X.2.1 dX5_felt_90 (by decide) ?_
                    refine lv_icmp_ne (tgt := 98) X.1 X.2.1 dX5_felt_91 (by decide) (fun c17 => ?_) (fun c17 => ?_)
                    · have hf := ifn hf c17
                      refine lv_iconst (v := 0) X.1 X.2.1 dX5_felt_98 (by decide) ?_
                      refine lv_istore (lv' := [(9, .int 0), (8, .int r15), (0, .ref (qa 0)), (1, .int p1), (2, .int p2), (3, .int p3), (4, .int p4), (5, .int p5), (6, .int p6), (7, .int p7)]) X.1 X.2.1 dX5_felt_99 hl (by decide) rfl (fun ls hl => ?_)
                      refine lv_iload X.1 X.2.1 dX5_felt_101 (lv_at hl 9 rfl) ?_
                      refine lv_if_ne (tgt := 110) X.1 X.2.1 dX5_felt_103 (by decide) (fun c18 => ?_) (fun c18 => ?_)
                      · have hf := ifn hf c18
                        refine lv_iload X.1 X.2.1 dX5_felt_110 (lv_at hl 9 rfl) ?_
                        refine lv_iconst (v := 1) X.1 X.2.1 dX5_felt_112 (by decide) ?_
                        refine lv_icmp_ne (tgt := 121) X.1 X.2.1 dX5_felt_113 (by decide) (fun _ => ?_) (fun q => absurd q c17)
                        refine lv_aload_n X.1 X.2.1 dX5_felt_121 rfl (lv_at hl 2 rfl) ?_
                        refine x_get X hP hG_x (by omega) rfl in_X5_felt_X5 0 (by decide) (by decide +kernel) rfl rfl dX5_felt_122 ?_
                        refine x_get X hP hG_n.1 (by omega) rfl in_X5_felt_X1 0 (by decide) (by decide +kernel) rfl rfl dX5_felt_125 ?_
                        refine lv_iconst (v := 1) X.1 X.2.1 dX5_felt_128 (by decide) ?_
                        refine lv_isub X.1 X.2.1 dX5_felt_129 ?_
                        obtain ⟨x19, ex19, hf⟩ := nm_of hf
                        refine lv_top_as ex19 ?_
                        refine lv_istore (lv' := [(10, .int x19), (9, .int 0), (8, .int r15), (0, .ref (qa 0)), (1, .int p1), (2, .int p2), (3, .int p3), (4, .int p4), (5, .int p5), (6, .int p6), (7, .int p7)]) X.1 X.2.1 dX5_felt_130 hl (by decide) rfl (fun ls hl => ?_)
                        refine lv_iload X.1 X.2.1 dX5_felt_132 (lv_at hl 10 rfl) ?_
                        refine lv_if_ne (tgt := 147) X.1 X.2.1 dX5_felt_134 (by decide) (fun _ => ?_) (fun q => absurd q c18)
                        refine lv_iload X.1 X.2.1 dX5_felt_147 (lv_at hl 10 rfl) ?_
                        refine lv_iconst (v := 1) X.1 X.2.1 dX5_felt_149 (by decide) ?_
                        refine lv_icmp_ne (tgt := 163) X.1 X.2.1 dX5_felt_150 (by decide) (fun _ => ?_) (fun q => absurd q c17)
                        refine lv_aload_n X.1 X.2.1 dX5_felt_163 rfl (lv_at hl 3 rfl) ?_
                        refine x_get X hP hG_x (by omega) rfl in_X5_felt_X5 5 (by decide) (by decide +kernel) rfl rfl dX5_felt_164 ?_
                        refine x_get X hP hG_t.1 (by omega) rfl in_X5_felt_X1 6 (by decide) (by decide +kernel) rfl rfl dX5_felt_167 ?_
                        refine lv_astore (lv' := [(11, .ref (qa (35 + 5))), (10, .int x19), (9, .int 0), (8, .int r15), (0, .ref (qa 0)), (1, .int p1), (2, .int p2), (3, .int p3), (4, .int p4), (5, .int p5), (6, .int p6), (7, .int p7)]) X.1 X.2.1 dX5_felt_170 hl (by decide) rfl (fun ls hl => ?_)
                        refine lv_aload_n X.1 X.2.1 dX5_felt_172 rfl (lv_at hl 4 rfl) ?_
                        refine x_get X hP hG_x (by omega) rfl in_X5_felt_X5 5 (by decide) (by decide +kernel) rfl rfl dX5_felt_173 ?_
                        refine lv_aload_n X.1 X.2.1 dX5_felt_176 rfl (lv_at hl 4 rfl) ?_
                        refine x_get X hP hG_x (by omega) rfl in_X5_felt_X5 0 (by decide) (by decide +kernel) rfl rfl dX5_felt_177 ?_
                        obtain ⟨r20, hr20, hf⟩ := bd_of hf
                        refine x_callVv X hP hS hG_t.1 (by omega) rfl (n := 1) (As := [.ref (qa 1)]) (ct_X1_take (by omega) hG_t (by omega) hG_n (by omega) hr20) gX5_felt_X1_take rfl (by decide +kernel) ⟨by decide, by decide⟩ rfl hl.1 rfl (Nat.le_of_ble_eq_true rfl) dX5_felt_180 (fun E H locs hp hP hS => ?_)
                        obtain ⟨hW_n, hk⟩ := hp
                        have hG_t := hW_n
                        have hG_x := Xo_kept hG_x (fun j h8 h9 => hk j (by omega))
                        have hG_n := Mu_kept hG_n (fun j h8 h9 => hk j (by omega))
                        have hG_r := Rs_kept hG_r (fun j h8 h9 => hk j (by omega))
                        have hfr : ∀ j, (j < 35 ∨ 42 ≤ j) → E j = E0 j := fun j o0 => (hk j (by omega)).trans (hfr j o0)
                        refine lv_iconst (v := 0) X.1 X.2.1 dX5_felt_183 (by decide) ?_
                        refine lv_istore (lv' := [(12, .int 0), (11, .ref (qa (35 + 5))), (10, .int x19), (9, .int 0), (8, .int r15), (0, .ref (qa 0)), (1, .int p1), (2, .int p2), (3, .int p3), (4, .int p4), (5, .int p5), (6, .int p6), (7, .int p7)]) X.1 X.2.1 dX5_felt_184 hl (by decide) rfl (fun ls hl => ?_)
                        refine lv_iload X.1 X.2.1 dX5_felt_186 (lv_at hl 3 rfl) ?_
                        refine lv_istore (lv' := [(13, .int 0), (12, .int 0), (11, .ref (qa (35 + 5))), (10, .int x19), (9, .int 0), (8, .int r15), (0, .ref (qa 0)), (1, .int p1), (2, .int p2), (3, .int p3), (4, .int p4), (5, .int p5), (6, .int p6), (7, .int p7)]) X.1 X.2.1 dX5_felt_188 hl (by decide) rfl (fun ls hl => ?_)
                        have lp21 : ∀ (n21 : Nat) (v12_21 : Int32) (v13_21 : Int32) (ki_t_21 : Nat → Int32) (we_t_21 : Nat → Int32) (wo_t_21 : Nat → Int32) (E : Nat → va_E) (H : Heap) (locs : List Loc) (ls : Array Slot), lp (bX5_felt_190 itm_r p1 p2 p3 p5 p6 x19 r20) n21 (v12_21, v13_21, ki_t_21, we_t_21, wo_t_21) = some R → va_P D vwCl (WD qa E) H → va_S (gA qa s.heap.size) s.heap H locs → Xo g qa E 0 img_x → Mu g qa E 1 men_n md_n day_n drw_n bu_n st_n ki_n we_n wo_n wr_n → Mu g qa E 35 r20.1 r20.2.1 r20.2.2.1 r20.2.2.2.1 r20.2.2.2.2.1 r20.2.2.2.2.2.1 ki_t_21 we_t_21 wo_t_21 r20.2.2.2.2.2.2.2.2.2 → Rs g qa E 55 th_r lan_r siz_r itm_r → (∀ j, (j < 35 ∨ 42 ≤ j) → E j = E0 j) → lv_has ls 14 [(0, .ref (qa 0)), (1, .int p1), (2, .int p2), (3, .int p3), (4, .int p4), (5, .int p5), (6, .int p6), (7, .int p7), (8, .int r15), (9, .int 0), (10, .int x19), (11, .ref (qa (35 + 5))), (12, .int v12_21), (13, .int v13_21)] → W p l e (rmf 5) s m args below meth c H locs 0 0 Q (F0 m 190 ls []) := by
                          intro n21
                          induction n21 with
                          | zero =>
                            intro v12_21 v13_21 ki_t_21 we_t_21 wo_t_21 E H locs ls hf
                            exact absurd hf (by intro h; cases h)
                          | succ n21 ih21 =>
                            intro v12_21 v13_21 ki_t_21 we_t_21 wo_t_21 E H locs ls hf hP hS hG_x hG_n hG_t hG_r hfr hl
                            have hf : bX5_felt_190 itm_r p1 p2 p3 p5 p6 x19 r20 (lp (bX5_felt_190 itm_r p1 p2 p3 p5 p6 x19 r20) n21) (v12_21, v13_21, ki_t_21, we_t_21, wo_t_21) = some R := hf
                            rw [bX5_felt_190] at hf
                            refine lv_iload X.1 X.2.1 dX5_felt_190 (lv_at hl 13 rfl) ?_
                            refine lv_iload X.1 X.2.1 dX5_felt_192 (lv_at hl 10 rfl) ?_
                            refine lv_icmp_gt (tgt := 236) X.1 X.2.1 dX5_felt_194 (by decide) (fun c22 => ?_) (fun c22 => ?_)
                            · have hf := ifp hf c22
                              refine lv_iload X.1 X.2.1 dX5_felt_236 (lv_at hl 12 rfl) ?_
                              obtain rfl := Option.some.inj hf
                              exact hret _ _ _ _ _ _ dX5_felt_238 rfl rfl (⟨hG_t, hfr⟩) hP hS
                            · have hf := ifn hf c22
                              refine lv_aload X.1 X.2.1 dX5_felt_197 (lv_at hl 11 rfl) ?_
                              refine lv_iload_n X.1 X.2.1 dX5_felt_199 rfl (lv_at hl 2 rfl) ?_
                              refine lv_iload X.1 X.2.1 dX5_felt_200 (lv_at hl 13 rfl) ?_
                              obtain ⟨hi23, hf⟩ := gin_of hf
                              refine x_iast X hP hS hG_t.2.2.2.2.2.1 (by omega) hi23 dX5_felt_202 (fun E H locs h1 hk hP hS => ?_)
                              have hG_t := Mu_set_5 hG_t h1 hk
                              have hG_x := Xo_kept hG_x (fun j h8 h9 => hk j (by omega))
                              have hG_n := Mu_kept hG_n (fun j h8 h9 => hk j (by omega))
                              have hG_r := Rs_kept hG_r (fun j h8 h9 => hk j (by omega))
                              have hfr : ∀ j, (j < 35 ∨ 42 ≤ j) → E j = E0 j := fun j o0 => (hk j (by omega)).trans (hfr j o0)
                              refine lv_aload_n X.1 X.2.1 dX5_felt_203 rfl (lv_at hl 0 rfl) ?_
                              refine lv_iload_n X.1 X.2.1 dX5_felt_204 rfl (lv_at hl 1 rfl) ?_
                              refine lv_aload_n X.1 X.2.1 dX5_felt_205 rfl (lv_at hl 0 rfl) ?_
                              refine x_get X hP hG_x (by omega) rfl in_X5_felt_X5 8 (by decide) (by decide +kernel) rfl rfl dX5_felt_206 ?_
                              refine lv_iload_n X.1 X.2.1 dX5_felt_209 rfl (lv_at hl 3 rfl) ?_
                              obtain ⟨hi24, hf⟩ := gin_of hf
                              have hj25 := in_lt hi24
                              refine x_aald X hP 4 rfl rfl hG_r.1 (by omega) hi24 dX5_felt_210 ?_
                              refine lv_iload X.1 X.2.1 dX5_felt_211 (lv_at hl 5 rfl) ?_
                              refine lv_iload X.1 X.2.1 dX5_felt_213 (lv_at hl 6 rfl) ?_
                              obtain ⟨r26, hr26, hf⟩ := bd_of hf
                              refine x_rdVi X hP hS hG_x (by omega) rfl (n := 4) (As := [.int p1, .ref (qa (55 + 1 + (Int32.toNatClampNeg p3))), .int p5, .int p6]) (ct_X5_trialIsTold hG_x hG_t (by omega) (Ro_of hG_r hj25) hr26) gX5_felt_X5_trialIsTold rfl (by decide +kernel) ⟨by decide, by decide⟩ rfl hl.1 rfl (Nat.le_of_ble_eq_true rfl) dX5_felt_215 (fun H locs hP hS => ?_)
                              refine lv_if_eq (tgt := 230) X.1 X.2.1 dX5_felt_218 (by decide) (fun c27 => ?_) (fun c27 => ?_)
                              · have hf := ifp hf c27
                                obtain ⟨x28, ex28, hf⟩ := nm_of hf
                                refine lv_iinc (v := x28) (lv' := [(13, .int x28), (0, .ref (qa 0)), (1, .int p1), (2, .int p2), (3, .int p3), (4, .int p4), (5, .int p5), (6, .int p6), (7, .int p7), (8, .int r15), (9, .int 0), (10, .int x19), (11, .ref (qa (35 + 5))), (12, .int v12_21)]) X.1 X.2.1 dX5_felt_230 hl (k := 13) rfl (by rw [ex28]; rfl) (by decide) rfl (fun ls hl => ?_)
                                refine lv_goto (tgt := 190) X.1 X.2.1 dX5_felt_233 (by decide) ?_
                                exact ih21 v12_21 x28 ki_t_21 we_t_21 (upd wo_t_21 (Int32.toNatClampNeg p2) v13_21) _ _ _ _ hf hP hS hG_x hG_n hG_t hG_r hfr (lv_sub hl [1, 2, 3, 4, 5, 6, 7, 8, 9, 10, 11, 12, 13, 0] rfl)
                              · have hf := ifn hf c27
                                refine lv_iload X.1 X.2.1 dX5_felt_221 (lv_at hl 12 rfl) ?_
                                refine lv_iconst (v := 1) X.1 X.2.1 dX5_felt_223 (by decide) ?_
                                refine lv_iload X.1 X.2.1 dX5_felt_224 (lv_at hl 13 rfl) ?_
                                refine lv_ishl X.1 X.2.1 dX5_felt_226 ?_
                                refine lv_ior X.1 X.2.1 dX5_felt_227 ?_
                                obtain ⟨x29, ex29, hf⟩ := nm_of hf
                                refine lv_top_as ex29 ?_
                                refine lv_istore (lv' := [(12, .int x29), (0, .ref (qa 0)), (1, .int p1), (2, .int p2), (3, .int p3), (4, .int p4), (5, .int p5), (6, .int p6), (7, .int p7), (8, .int r15), (9, .int 0), (10, .int x19), (11, .ref (qa (35 + 5))), (13, .int v13_21)]) X.1 X.2.1 dX5_felt_228 hl (by decide) rfl (fun ls hl => ?_)
                                obtain ⟨x30, ex30, hf⟩ := nm_of hf
                                refine lv_iinc (v := x30) (lv' := [(13, .int x30), (12, .int x29), (0, .ref (qa 0)), (1, .int p1), (2, .int p2), (3, .int p3), (4, .int p4), (5, .int p5), (6, .int p6), (7, .int p7), (8, .int r15), (9, .int 0), (10, .int x19), (11, .ref (qa (35 + 5)))]) X.1 X.2.1 dX5_felt_230 hl (k := 13) rfl (by rw [ex30]; rfl) (by decide) rfl (fun ls hl => ?_)
                                refine lv_goto (tgt := 190) X.1 X.2.1 dX5_felt_233 (by decide) ?_
                                exact ih21 x29 x30 ki_t_21 we_t_21 (upd wo_t_21 (Int32.toNatClampNeg p2) v13_21) _ _ _ _ hf hP hS hG_x hG_n hG_t hG_r hfr (lv_sub hl [2, 3, 4, 5, 6, 7, 8, 9, 10, 11, 12, 13, 1, 0] rfl)
                        exact lp21 FU 0 0 r20.2.2.2.2.2.2.1 r20.2.2.2.2.2.2.2.1 r20.2.2.2.2.2.2.2.2.1 _ _ _ _ hf hP hS hG_x hG_n hG_t hG_r hfr (lv_sub hl [6, 7, 8, 9, 10, 11, 12, 13, 5, 4, 3, 2, 1, 0] rfl)
                      · have hf := ifp hf c18
                        refine lv_iconst (v := 4) X.1 X.2.1 dX5_felt_106 (by decide) ?_
                        refine lv_goto (tgt := 130) X.1 X.2.1 dX5_felt_107 (by decide) ?_
                        refine lv_istore (lv' := [(10, .int 4), (9, .int 0), (8, .int r15), (0, .ref (qa 0)), (1, .int p1), (2, .int p2), (3, .int p3), (4, .int p4), (5, .int p5), (6, .int p6), (7, .int p7)]) X.1 X.2.1 dX5_felt_130 hl (by decide) rfl (fun ls hl => ?_)
                        refine lv_iload X.1 X.2.1 dX5_felt_132 (lv_at hl 10 rfl) ?_
                        refine lv_if_ne (tgt := 147) X.1 X.2.1 dX5_felt_134 (by decide) (fun q => absurd c18 q) (fun _ => ?_)
                        refine lv_aload_n X.1 X.2.1 dX5_felt_137 rfl (lv_at hl 3 rfl) ?_
                        refine x_get X hP hG_x (by omega) rfl in_X5_felt_X5 5 (by decide) (by decide +kernel) rfl rfl dX5_felt_138 ?_
                        refine x_get X hP hG_t.1 (by omega) rfl in_X5_felt_X1 4 (by decide) (by decide +kernel) rfl rfl dX5_felt_141 ?_
                        refine lv_goto (tgt := 170) X.1 X.2.1 dX5_felt_144 (by decide) ?_
                        refine lv_astore (lv' := [(11, .ref (qa (35 + 3))), (10, .int 4), (9, .int 0), (8, .int r15), (0, .ref (qa 0)), (1, .int p1), (2, .int p2), (3, .int p3), (4, .int p4), (5, .int p5), (6, .int p6), (7, .int p7)]) X.1 X.2.1 dX5_felt_170 hl (by decide) rfl (fun ls hl => ?_)
                        refine lv_aload_n X.1 X.2.1 dX5_felt_172 rfl (lv_at hl 4 rfl) ?_
                        refine x_get X hP hG_x (by omega) rfl in_X5_felt_X5 5 (by decide) (by decide +kernel) rfl rfl dX5_felt_173 ?_
                        refine lv_aload_n X.1 X.2.1 dX5_felt_176 rfl (lv_at hl 4 rfl) ?_
                        refine x_get X hP hG_x (by omega) rfl in_X5_felt_X5 0 (by decide) (by decide +kernel) rfl rfl dX5_felt_177 ?_
                        obtain ⟨r31, hr31, hf⟩ := bd_of hf
                        refine x_callVv X hP hS hG_t.1 (by omega) rfl (n := 1) (As := [.ref (qa 1)]) (ct_X1_take (by omega) hG_t (by omega) hG_n (by omega) hr31) gX5_felt_X1_take rfl (by decide +kernel) ⟨by decide, by decide⟩ rfl hl.1 rfl (Nat.le_of_ble_eq_true rfl) dX5_felt_180 (fun E H locs hp hP hS => ?_)
                        obtain ⟨hW_n, hk⟩ := hp
                        have hG_t := hW_n
                        have hG_x := Xo_kept hG_x (fun j h8 h9 => hk j (by omega))
                        have hG_n := Mu_kept hG_n (fun j h8 h9 => hk j (by omega))
                        have hG_r := Rs_kept hG_r (fun j h8 h9 => hk j (by omega))
                        have hfr : ∀ j, (j < 35 ∨ 42 ≤ j) → E j = E0 j := fun j o0 => (hk j (by omega)).trans (hfr j o0)
                        refine lv_iconst (v := 0) X.1 X.2.1 dX5_felt_183 (by decide) ?_
                        refine lv_istore (lv' := [(12, .int 0), (11, .ref (qa (35 + 3))), (10, .int 4), (9, .int 0), (8, .int r15), (0, .ref (qa 0)), (1, .int p1), (2, .int p2), (3, .int p3), (4, .int p4), (5, .int p5), (6, .int p6), (7, .int p7)]) X.1 X.2.1 dX5_felt_184 hl (by decide) rfl (fun ls hl => ?_)
                        refine lv_iload X.1 X.2.1 dX5_felt_186 (lv_at hl 3 rfl) ?_
                        refine lv_istore (lv' := [(13, .int 0), (12, .int 0), (11, .ref (qa (35 + 3))), (10, .int 4), (9, .int 0), (8, .int r15), (0, .ref (qa 0)), (1, .int p1), (2, .int p2), (3, .int p3), (4, .int p4), (5, .int p5), (6, .int p6), (7, .int p7)]) X.1 X.2.1 dX5_felt_188 hl (by decide) rfl (fun ls hl => ?_)
                        have lp32 : ∀ (n32 : Nat) (v12_32 : Int32) (v13_32 : Int32) (ki_t_32 : Nat → Int32) (we_t_32 : Nat → Int32) (wo_t_32 : Nat → Int32) (E : Nat → va_E) (H : Heap) (locs : List Loc) (ls : Array Slot), lp (bX5_felt_190_1 itm_r p1 p2 p3 p5 p6 r31) n32 (v12_32, v13_32, ki_t_32, we_t_32, wo_t_32) = some R → va_P D vwCl (WD qa E) H → va_S (gA qa s.heap.size) s.heap H locs → Xo g qa E 0 img_x → Mu g qa E 1 men_n md_n day_n drw_n bu_n st_n ki_n we_n wo_n wr_n → Mu g qa E 35 r31.1 r31.2.1 r31.2.2.1 r31.2.2.2.1 r31.2.2.2.2.1 r31.2.2.2.2.2.1 ki_t_32 we_t_32 wo_t_32 r31.2.2.2.2.2.2.2.2.2 → Rs g qa E 55 th_r lan_r siz_r itm_r → (∀ j, (j < 35 ∨ 42 ≤ j) → E j = E0 j) → lv_has ls 14 [(0, .ref (qa 0)), (1, .int p1), (2, .int p2), (3, .int p3), (4, .int p4), (5, .int p5), (6, .int p6), (7, .int p7), (8, .int r15), (9, .int 0), (10, .int 4), (11, .ref (qa (35 + 3))), (12, .int v12_32), (13, .int v13_32)] → W p l e (rmf 5) s m args below meth c H locs 0 0 Q (F0 m 190 ls []) := by
                          intro n32
                          induction n32 with
                          | zero =>
                            intro v12_32 v13_32 ki_t_32 we_t_32 wo_t_32 E H locs ls hf
                            exact absurd hf (by intro h; cases h)
                          | succ n32 ih32 =>
                            intro v12_32 v13_32 ki_t_32 we_t_32 wo_t_32 E H locs ls hf hP hS hG_x hG_n hG_t hG_r hfr hl
                            have hf : bX5_felt_190_1 itm_r p1 p2 p3 p5 p6 r31 (lp (bX5_felt_190_1 itm_r p1 p2 p3 p5 p6 r31) n32) (v12_32, v13_32, ki_t_32, we_t_32, wo_t_32) = some R := hf
                            rw [bX5_felt_190_1] at hf
                            refine lv_iload X.1 X.2.1 dX5_felt_190 (lv_at hl 13 rfl) ?_
                            refine lv_iload X.1 X.2.1 dX5_felt_192 (lv_at hl 10 rfl) ?_
                            refine lv_icmp_gt (tgt := 236) X.1 X.2.1 dX5_felt_194 (by decide) (fun c33 => ?_) (fun c33 => ?_)
                            · have hf := ifp hf c33
                              refine lv_iload X.1 X.2.1 dX5_felt_236 (lv_at hl 12 rfl) ?_
                              obtain rfl := Option.some.inj hf
                              exact hret _ _ _ _ _ _ dX5_felt_238 rfl rfl (⟨hG_t, hfr⟩) hP hS
                            · have hf := ifn hf c33
                              refine lv_aload X.1 X.2.1 dX5_felt_197 (lv_at hl 11 rfl) ?_
                              refine lv_iload_n X.1 X.2.1 dX5_felt_199 rfl (lv_at hl 2 rfl) ?_
                              refine lv_iload X.1 X.2.1 dX5_felt_200 (lv_at hl 13 rfl) ?_
                              obtain ⟨hi34, hf⟩ := gin_of hf
                              refine x_iast X hP hS hG_t.2.2.2.1 (by omega) hi34 dX5_felt_202 (fun E H locs h1 hk hP hS => ?_)
                              have hG_t := Mu_set_3 hG_t h1 hk
                              have hG_x := Xo_kept hG_x (fun j h8 h9 => hk j (by omega))
                              have hG_n := Mu_kept hG_n (fun j h8 h9 => hk j (by omega))
                              have hG_r := Rs_kept hG_r (fun j h8 h9 => hk j (by omega))
                              have hfr : ∀ j, (j < 35 ∨ 42 ≤ j) → E j = E0 j := fun j o0 => (hk j (by omega)).trans (hfr j o0)
                              refine lv_aload_n X.1 X.2.1 dX5_felt_203 rfl (lv_at hl 0 rfl) ?_
                              refine lv_iload_n X.1 X.2.1 dX5_felt_204 rfl (lv_at hl 1 rfl) ?_
                              refine lv_aload_n X.1 X.2.1 dX5_felt_205 rfl (lv_at hl 0 rfl) ?_
                              refine x_get X hP hG_x (by omega) rfl in_X5_felt_X5 8 (by decide) (by decide +kernel) rfl rfl dX5_felt_206 ?_
                              refine lv_iload_n X.1 X.2.1 dX5_felt_209 rfl (lv_at hl 3 rfl) ?_
                              obtain ⟨hi35, hf⟩ := gin_of hf
                              have hj36 := in_lt hi35
                              refine x_aald X hP 4 rfl rfl hG_r.1 (by omega) hi35 dX5_felt_210 ?_
                              refine lv_iload X.1 X.2.1 dX5_felt_211 (lv_at hl 5 rfl) ?_
                              refine lv_iload X.1 X.2.1 dX5_felt_213 (lv_at hl 6 rfl) ?_
                              obtain ⟨r37, hr37, hf⟩ := bd_of hf
                              refine x_rdVi X hP hS hG_x (by omega) rfl (n := 4) (As := [.int p1, .ref (qa (55 + 1 + (Int32.toNatClampNeg p3))), .int p5, .int p6]) (ct_X5_trialIsTold hG_x hG_t (by omega) (Ro_of hG_r hj36) hr37) gX5_felt_X5_trialIsTold rfl (by decide +kernel) ⟨by decide, by decide⟩ rfl hl.1 rfl (Nat.le_of_ble_eq_true rfl) dX5_felt_215 (fun H locs hP hS => ?_)
                              refine lv_if_eq (tgt := 230) X.1 X.2.1 dX5_felt_218 (by decide) (fun c38 => ?_) (fun c38 => ?_)
                              · have hf := ifp hf c38
                                obtain ⟨x39, ex39, hf⟩ := nm_of hf
                                refine lv_iinc (v := x39) (lv' := [(13, .int x39), (0, .ref (qa 0)), (1, .int p1), (2, .int p2), (3, .int p3), (4, .int p4), (5, .int p5), (6, .int p6), (7, .int p7), (8, .int r15), (9, .int 0), (10, .int 4), (11, .ref (qa (35 + 3))), (12, .int v12_32)]) X.1 X.2.1 dX5_felt_230 hl (k := 13) rfl (by rw [ex39]; rfl) (by decide) rfl (fun ls hl => ?_)
                                refine lv_goto (tgt := 190) X.1 X.2.1 dX5_felt_233 (by decide) ?_
                                exact ih32 v12_32 x39 (upd ki_t_32 (Int32.toNatClampNeg p2) v13_32) we_t_32 wo_t_32 _ _ _ _ hf hP hS hG_x hG_n hG_t hG_r hfr (lv_sub hl [1, 2, 3, 4, 5, 6, 7, 8, 9, 10, 11, 12, 13, 0] rfl)
                              · have hf := ifn hf c38
                                refine lv_iload X.1 X.2.1 dX5_felt_221 (lv_at hl 12 rfl) ?_
                                refine lv_iconst (v := 1) X.1 X.2.1 dX5_felt_223 (by decide) ?_
                                refine lv_iload X.1 X.2.1 dX5_felt_224 (lv_at hl 13 rfl) ?_
                                refine lv_ishl X.1 X.2.1 dX5_felt_226 ?_
                                refine lv_ior X.1 X.2.1 dX5_felt_227 ?_
                                obtain ⟨x40, ex40, hf⟩ := nm_of hf
                                refine lv_top_as ex40 ?_
                                refine lv_istore (lv' := [(12, .int x40), (0, .ref (qa 0)), (1, .int p1), (2, .int p2), (3, .int p3), (4, .int p4), (5, .int p5), (6, .int p6), (7, .int p7), (8, .int r15), (9, .int 0), (10, .int 4), (11, .ref (qa (35 + 3))), (13, .int v13_32)]) X.1 X.2.1 dX5_felt_228 hl (by decide) rfl (fun ls hl => ?_)
                                obtain ⟨x41, ex41, hf⟩ := nm_of hf
                                refine lv_iinc (v := x41) (lv' := [(13, .int x41), (12, .int x40), (0, .ref (qa 0)), (1, .int p1), (2, .int p2), (3, .int p3), (4, .int p4), (5, .int p5), (6, .int p6), (7, .int p7), (8, .int r15), (9, .int 0), (10, .int 4), (11, .ref (qa (35 + 3)))]) X.1 X.2.1 dX5_felt_230 hl (k := 13) rfl (by rw [ex41]; rfl) (by decide) rfl (fun ls hl => ?_)
                                refine lv_goto (tgt := 190) X.1 X.2.1 dX5_felt_233 (by decide) ?_
                                exact ih32 x40 x41 (upd ki_t_32 (Int32.toNatClampNeg p2) v13_32) we_t_32 wo_t_32 _ _ _ _ hf hP hS hG_x hG_n hG_t hG_r hfr (lv_sub hl [2, 3, 4, 5, 6, 7, 8, 9, 10, 11, 12, 13, 1, 0] rfl)
                        exact lp32 FU 0 0 r31.2.2.2.2.2.2.1 r31.2.2.2.2.2.2.2.1 r31.2.2.2.2.2.2.2.2.1 _ _ _ _ hf hP hS hG_x hG_n hG_t hG_r hfr (lv_sub hl [6, 7, 8, 9, 10, 11, 12, 13, 5, 4, 3, 2, 1, 0] rfl)
                    · have hf := ifp hf c17
                      refine lv_iconst (v := 1) X.1 X.2.1 dX5_felt_94 (by decide) ?_
                      refine lv_goto (tgt := 99) X.1 X.2.1 dX5_felt_95 (by decide) ?_
                      refine lv_istore (lv' := [(9, .int 1), (8, .int r15), (0, .ref (qa 0)), (1, .int p1), (2, .int p2), (3, .int p3), (4, .int p4), (5, .int p5), (6, .int p6), (7, .int p7)]) X.1 X.2.1 dX5_felt_99 hl (by decide) rfl (fun ls hl => ?_)
                      refine lv_iload X.1 X.2.1 dX5_felt_101 (lv_at hl 9 rfl) ?_
                      refine lv_if_ne (tgt := 110) X.1 X.2.1 dX5_felt_103 (by decide) (fun c42 => ?_) (fun c42 => ?_)
                      · have hf := ifn hf c42
                        refine lv_iload X.1 X.2.1 dX5_felt_110 (lv_at hl 9 rfl) ?_
                        refine lv_iconst (v := 1) X.1 X.2.1 dX5_felt_112 (by decide) ?_
                        refine lv_icmp_ne (tgt := 121) X.1 X.2.1 dX5_felt_113 (by decide) (fun q => absurd c17 q) (fun _ => ?_)
                        refine lv_bipush (v := 20) X.1 X.2.1 dX5_felt_116 (by decide) ?_
                        refine lv_goto (tgt := 130) X.1 X.2.1 dX5_felt_118 (by decide) ?_
                        refine lv_istore (lv' := [(10, .int 20), (9, .int 1), (8, .int r15), (0, .ref (qa 0)), (1, .int p1), (2, .int p2), (3, .int p3), (4, .int p4), (5, .int p5), (6, .int p6), (7, .int p7)]) X.1 X.2.1 dX5_felt_130 hl (by decide) rfl (fun ls hl => ?_)
                        refine lv_iload X.1 X.2.1 dX5_felt_132 (lv_at hl 10 rfl) ?_
                        refine lv_if_ne (tgt := 147) X.1 X.2.1 dX5_felt_134 (by decide) (fun _ => ?_) (fun q => absurd q c42)
                        refine lv_iload X.1 X.2.1 dX5_felt_147 (lv_at hl 10 rfl) ?_
                        refine lv_iconst (v := 1) X.1 X.2.1 dX5_felt_149 (by decide) ?_
                        refine lv_icmp_ne (tgt := 163) X.1 X.2.1 dX5_felt_150 (by decide) (fun q => absurd c17 q) (fun _ => ?_)
                        refine lv_aload_n X.1 X.2.1 dX5_felt_153 rfl (lv_at hl 3 rfl) ?_
                        refine x_get X hP hG_x (by omega) rfl in_X5_felt_X5 5 (by decide) (by decide +kernel) rfl rfl dX5_felt_154 ?_
                        refine x_get X hP hG_t.1 (by omega) rfl in_X5_felt_X1 5 (by decide) (by decide +kernel) rfl rfl dX5_felt_157 ?_
                        refine lv_goto (tgt := 170) X.1 X.2.1 dX5_felt_160 (by decide) ?_
                        refine lv_astore (lv' := [(11, .ref (qa (35 + 4))), (10, .int 20), (9, .int 1), (8, .int r15), (0, .ref (qa 0)), (1, .int p1), (2, .int p2), (3, .int p3), (4, .int p4), (5, .int p5), (6, .int p6), (7, .int p7)]) X.1 X.2.1 dX5_felt_170 hl (by decide) rfl (fun ls hl => ?_)
                        refine lv_aload_n X.1 X.2.1 dX5_felt_172 rfl (lv_at hl 4 rfl) ?_
                        refine x_get X hP hG_x (by omega) rfl in_X5_felt_X5 5 (by decide) (by decide +kernel) rfl rfl dX5_felt_173 ?_
                        refine lv_aload_n X.1 X.2.1 dX5_felt_176 rfl (lv_at hl 4 rfl) ?_
                        refine x_get X hP hG_x (by omega) rfl in_X5_felt_X5 0 (by decide) (by decide +kernel) rfl rfl dX5_felt_177 ?_
                        obtain ⟨r43, hr43, hf⟩ := bd_of hf
                        refine x_callVv X hP hS hG_t.1 (by omega) rfl (n := 1) (As := [.ref (qa 1)]) (ct_X1_take (by omega) hG_t (by omega) hG_n (by omega) hr43) gX5_felt_X1_take rfl (by decide +kernel) ⟨by decide, by decide⟩ rfl hl.1 rfl (Nat.le_of_ble_eq_true rfl) dX5_felt_180 (fun E H locs hp hP hS => ?_)
                        obtain ⟨hW_n, hk⟩ := hp
                        have hG_t := hW_n
                        have hG_x := Xo_kept hG_x (fun j h8 h9 => hk j (by omega))
                        have hG_n := Mu_kept hG_n (fun j h8 h9 => hk j (by omega))
                        have hG_r := Rs_kept hG_r (fun j h8 h9 => hk j (by omega))
                        have hfr : ∀ j, (j < 35 ∨ 42 ≤ j) → E j = E0 j := fun j o0 => (hk j (by omega)).trans (hfr j o0)
                        refine lv_iconst (v := 0) X.1 X.2.1 dX5_felt_183 (by decide) ?_
                        refine lv_istore (lv' := [(12, .int 0), (11, .ref (qa (35 + 4))), (10, .int 20), (9, .int 1), (8, .int r15), (0, .ref (qa 0)), (1, .int p1), (2, .int p2), (3, .int p3), (4, .int p4), (5, .int p5), (6, .int p6), (7, .int p7)]) X.1 X.2.1 dX5_felt_184 hl (by decide) rfl (fun ls hl => ?_)
                        refine lv_iload X.1 X.2.1 dX5_felt_186 (lv_at hl 3 rfl) ?_
                        refine lv_istore (lv' := [(13, .int 1), (12, .int 0), (11, .ref (qa (35 + 4))), (10, .int 20), (9, .int 1), (8, .int r15), (0, .ref (qa 0)), (1, .int p1), (2, .int p2), (3, .int p3), (4, .int p4), (5, .int p5), (6, .int p6), (7, .int p7)]) X.1 X.2.1 dX5_felt_188 hl (by decide) rfl (fun ls hl => ?_)
                        have lp44 : ∀ (n44 : Nat) (v12_44 : Int32) (v13_44 : Int32) (ki_t_44 : Nat → Int32) (we_t_44 : Nat → Int32) (wo_t_44 : Nat → Int32) (E : Nat → va_E) (H : Heap) (locs : List Loc) (ls : Array Slot), lp (bX5_felt_190_2 itm_r p1 p2 p3 p5 p6 r43) n44 (v12_44, v13_44, ki_t_44, we_t_44, wo_t_44) = some R → va_P D vwCl (WD qa E) H → va_S (gA qa s.heap.size) s.heap H locs → Xo g qa E 0 img_x → Mu g qa E 1 men_n md_n day_n drw_n bu_n st_n ki_n we_n wo_n wr_n → Mu g qa E 35 r43.1 r43.2.1 r43.2.2.1 r43.2.2.2.1 r43.2.2.2.2.1 r43.2.2.2.2.2.1 ki_t_44 we_t_44 wo_t_44 r43.2.2.2.2.2.2.2.2.2 → Rs g qa E 55 th_r lan_r siz_r itm_r → (∀ j, (j < 35 ∨ 42 ≤ j) → E j = E0 j) → lv_has ls 14 [(0, .ref (qa 0)), (1, .int p1), (2, .int p2), (3, .int p3), (4, .int p4), (5, .int p5), (6, .int p6), (7, .int p7), (8, .int r15), (9, .int 1), (10, .int 20), (11, .ref (qa (35 + 4))), (12, .int v12_44), (13, .int v13_44)] → W p l e (rmf 5) s m args below meth c H locs 0 0 Q (F0 m 190 ls []) := by
                          intro n44
                          induction n44 with
                          | zero =>
                            intro v12_44 v13_44 ki_t_44 we_t_44 wo_t_44 E H locs ls hf
                            exact absurd hf (by intro h; cases h)
                          | succ n44 ih44 =>
                            intro v12_44 v13_44 ki_t_44 we_t_44 wo_t_44 E H locs ls hf hP hS hG_x hG_n hG_t hG_r hfr hl
                            have hf : bX5_felt_190_2 itm_r p1 p2 p3 p5 p6 r43 (lp (bX5_felt_190_2 itm_r p1 p2 p3 p5 p6 r43) n44) (v12_44, v13_44, ki_t_44, we_t_44, wo_t_44) = some R := hf
                            rw [bX5_felt_190_2] at hf
                            refine lv_iload X.1 X.2.1 dX5_felt_190 (lv_at hl 13 rfl) ?_
                            refine lv_iload X.1 X.2.1 dX5_felt_192 (lv_at hl 10 rfl) ?_
                            refine lv_icmp_gt (tgt := 236) X.1 X.2.1 dX5_felt_194 (by decide) (fun c45 => ?_) (fun c45 => ?_)
                            · have hf := ifp hf c45
                              refine lv_iload X.1 X.2.1 dX5_felt_236 (lv_at hl 12 rfl) ?_
                              obtain rfl := Option.some.inj hf
                              exact hret _ _ _ _ _ _ dX5_felt_238 rfl rfl (⟨hG_t, hfr⟩) hP hS
                            · have hf := ifn hf c45
                              refine lv_aload X.1 X.2.1 dX5_felt_197 (lv_at hl 11 rfl) ?_
                              refine lv_iload_n X.1 X.2.1 dX5_felt_199 rfl (lv_at hl 2 rfl) ?_
                              refine lv_iload X.1 X.2.1 dX5_felt_200 (lv_at hl 13 rfl) ?_
                              obtain ⟨hi46, hf⟩ := gin_of hf
                              refine x_iast X hP hS hG_t.2.2.2.2.1 (by omega) hi46 dX5_felt_202 (fun E H locs h1 hk hP hS => ?_)
                              have hG_t := Mu_set_4 hG_t h1 hk
                              have hG_x := Xo_kept hG_x (fun j h8 h9 => hk j (by omega))
                              have hG_n := Mu_kept hG_n (fun j h8 h9 => hk j (by omega))
                              have hG_r := Rs_kept hG_r (fun j h8 h9 => hk j (by omega))
                              have hfr : ∀ j, (j < 35 ∨ 42 ≤ j) → E j = E0 j := fun j o0 => (hk j (by omega)).trans (hfr j o0)
                              refine lv_aload_n X.1 X.2.1 dX5_felt_203 rfl (lv_at hl 0 rfl) ?_
                              refine lv_iload_n X.1 X.2.1 dX5_felt_204 rfl (lv_at hl 1 rfl) ?_
                              refine lv_aload_n X.1 X.2.1 dX5_felt_205 rfl (lv_at hl 0 rfl) ?_
                              refine x_get X hP hG_x (by omega) rfl in_X5_felt_X5 8 (by decide) (by decide +kernel) rfl rfl dX5_felt_206 ?_
                              refine lv_iload_n X.1 X.2.1 dX5_felt_209 rfl (lv_at hl 3 rfl) ?_
                              obtain ⟨hi47, hf⟩ := gin_of hf
                              have hj48 := in_lt hi47
                              refine x_aald X hP 4 rfl rfl hG_r.1 (by omega) hi47 dX5_felt_210 ?_
                              refine lv_iload X.1 X.2.1 dX5_felt_211 (lv_at hl 5 rfl) ?_
                              refine lv_iload X.1 X.2.1 dX5_felt_213 (lv_at hl 6 rfl) ?_
                              obtain ⟨r49, hr49, hf⟩ := bd_of hf
                              refine x_rdVi X hP hS hG_x (by omega) rfl (n := 4) (As := [.int p1, .ref (qa (55 + 1 + (Int32.toNatClampNeg p3))), .int p5, .int p6]) (ct_X5_trialIsTold hG_x hG_t (by omega) (Ro_of hG_r hj48) hr49) gX5_felt_X5_trialIsTold rfl (by decide +kernel) ⟨by decide, by decide⟩ rfl hl.1 rfl (Nat.le_of_ble_eq_true rfl) dX5_felt_215 (fun H locs hP hS => ?_)
                              refine lv_if_eq (tgt := 230) X.1 X.2.1 dX5_felt_218 (by decide) (fun c50 => ?_) (fun c50 => ?_)
                              · have hf := ifp hf c50
                                obtain ⟨x51, ex51, hf⟩ := nm_of hf
                                refine lv_iinc (v := x51) (lv' := [(13, .int x51), (0, .ref (qa 0)), (1, .int p1), (2, .int p2), (3, .int p3), (4, .int p4), (5, .int p5), (6, .int p6), (7, .int p7), (8, .int r15), (9, .int 1), (10, .int 20), (11, .ref (qa (35 + 4))), (12, .int v12_44)]) X.1 X.2.1 dX5_felt_230 hl (k := 13) rfl (by rw [ex51]; rfl) (by decide) rfl (fun ls hl => ?_)
                                refine lv_goto (tgt := 190) X.1 X.2.1 dX5_felt_233 (by decide) ?_
                                exact ih44 v12_44 x51 ki_t_44 (upd we_t_44 (Int32.toNatClampNeg p2) v13_44) wo_t_44 _ _ _ _ hf hP hS hG_x hG_n hG_t hG_r hfr (lv_sub hl [1, 2, 3, 4, 5, 6, 7, 8, 9, 10, 11, 12, 13, 0] rfl)
                              · have hf := ifn hf c50
                                refine lv_iload X.1 X.2.1 dX5_felt_221 (lv_at hl 12 rfl) ?_
                                refine lv_iconst (v := 1) X.1 X.2.1 dX5_felt_223 (by decide) ?_
                                refine lv_iload X.1 X.2.1 dX5_felt_224 (lv_at hl 13 rfl) ?_
                                refine lv_ishl X.1 X.2.1 dX5_felt_226 ?_
                                refine lv_ior X.1 X.2.1 dX5_felt_227 ?_
                                obtain ⟨x52, ex52, hf⟩ := nm_of hf
                                refine lv_top_as ex52 ?_
                                refine lv_istore (lv' := [(12, .int x52), (0, .ref (qa 0)), (1, .int p1), (2, .int p2), (3, .int p3), (4, .int p4), (5, .int p5), (6, .int p6), (7, .int p7), (8, .int r15), (9, .int 1), (10, .int 20), (11, .ref (qa (35 + 4))), (13, .int v13_44)]) X.1 X.2.1 dX5_felt_228 hl (by decide) rfl (fun ls hl => ?_)
                                obtain ⟨x53, ex53, hf⟩ := nm_of hf
                                refine lv_iinc (v := x53) (lv' := [(13, .int x53), (12, .int x52), (0, .ref (qa 0)), (1, .int p1), (2, .int p2), (3, .int p3), (4, .int p4), (5, .int p5), (6, .int p6), (7, .int p7), (8, .int r15), (9, .int 1), (10, .int 20), (11, .ref (qa (35 + 4)))]) X.1 X.2.1 dX5_felt_230 hl (k := 13) rfl (by rw [ex53]; rfl) (by decide) rfl (fun ls hl => ?_)
                                refine lv_goto (tgt := 190) X.1 X.2.1 dX5_felt_233 (by decide) ?_
                                exact ih44 x52 x53 ki_t_44 (upd we_t_44 (Int32.toNatClampNeg p2) v13_44) wo_t_44 _ _ _ _ hf hP hS hG_x hG_n hG_t hG_r hfr (lv_sub hl [2, 3, 4, 5, 6, 7, 8, 9, 10, 11, 12, 13, 1, 0] rfl)
                        exact lp44 FU 0 1 r43.2.2.2.2.2.2.1 r43.2.2.2.2.2.2.2.1 r43.2.2.2.2.2.2.2.2.1 _ _ _ _ hf hP hS hG_x hG_n hG_t hG_r hfr (lv_sub hl [6, 7, 8, 9, 10, 11, 12, 13, 5, 4, 3, 2, 1, 0] rfl)
                      · have hf := ifp hf c42
                        refine lv_iconst (v := 4) X.1 X.2.1 dX5_felt_106 (by decide) ?_
                        refine lv_goto (tgt := 130) X.1 X.2.1 dX5_felt_107 (by decide) ?_
                        refine lv_istore (lv' := [(10, .int 4), (9, .int 1), (8, .int r15), (0, .ref (qa 0)), (1, .int p1), (2, .int p2), (3, .int p3), (4, .int p4), (5, .int p5), (6, .int p6), (7, .int p7)]) X.1 X.2.1 dX5_felt_130 hl (by decide) rfl (fun ls hl => ?_)
                        refine lv_iload X.1 X.2.1 dX5_felt_132 (lv_at hl 10 rfl) ?_
                        refine lv_if_ne (tgt := 147) X.1 X.2.1 dX5_felt_134 (by decide) (fun q => absurd c42 q) (fun _ => ?_)
                        refine lv_aload_n X.1 X.2.1 dX5_felt_137 rfl (lv_at hl 3 rfl) ?_
                        refine x_get X hP hG_x (by omega) rfl in_X5_felt_X5 5 (by decide) (by decide +kernel) rfl rfl dX5_felt_138 ?_
                        refine x_get X hP hG_t.1 (by omega) rfl in_X5_felt_X1 4 (by decide) (by decide +kernel) rfl rfl dX5_felt_141 ?_
                        refine lv_goto (tgt := 170) X.1 X.2.1 dX5_felt_144 (by decide) ?_
                        refine lv_astore (lv' := [(11, .ref (qa (35 + 3))), (10, .int 4), (9, .int 1), (8, .int r15), (0, .ref (qa 0)), (1, .int p1), (2, .int p2), (3, .int p3), (4, .int p4), (5, .int p5), (6, .int p6), (7, .int p7)]) X.1 X.2.1 dX5_felt_170 hl (by decide) rfl (fun ls hl => ?_)
                        refine lv_aload_n X.1 X.2.1 dX5_felt_172 rfl (lv_at hl 4 rfl) ?_
                        refine x_get X hP hG_x (by omega) rfl in_X5_felt_X5 5 (by decide) (by decide +kernel) rfl rfl dX5_felt_173 ?_
                        refine lv_aload_n X.1 X.2.1 dX5_felt_176 rfl (lv_at hl 4 rfl) ?_
                        refine x_get X hP hG_x (by omega) rfl in_X5_felt_X5 0 (by decide) (by decide +kernel) rfl rfl dX5_felt_177 ?_
                        obtain ⟨r54, hr54, hf⟩ := bd_of hf
                        refine x_callVv X hP hS hG_t.1 (by omega) rfl (n := 1) (As := [.ref (qa 1)]) (ct_X1_take (by omega) hG_t (by omega) hG_n (by omega) hr54) gX5_felt_X1_take rfl (by decide +kernel) ⟨by decide, by decide⟩ rfl hl.1 rfl (Nat.le_of_ble_eq_true rfl) dX5_felt_180 (fun E H locs hp hP hS => ?_)
                        obtain ⟨hW_n, hk⟩ := hp
                        have hG_t := hW_n
                        have hG_x := Xo_kept hG_x (fun j h8 h9 => hk j (by omega))
                        have hG_n := Mu_kept hG_n (fun j h8 h9 => hk j (by omega))
                        have hG_r := Rs_kept hG_r (fun j h8 h9 => hk j (by omega))
                        have hfr : ∀ j, (j < 35 ∨ 42 ≤ j) → E j = E0 j := fun j o0 => (hk j (by omega)).trans (hfr j o0)
                        refine lv_iconst (v := 0) X.1 X.2.1 dX5_felt_183 (by decide) ?_
                        refine lv_istore (lv' := [(12, .int 0), (11, .ref (qa (35 + 3))), (10, .int 4), (9, .int 1), (8, .int r15), (0, .ref (qa 0)), (1, .int p1), (2, .int p2), (3, .int p3), (4, .int p4), (5, .int p5), (6, .int p6), (7, .int p7)]) X.1 X.2.1 dX5_felt_184 hl (by decide) rfl (fun ls hl => ?_)
                        refine lv_iload X.1 X.2.1 dX5_felt_186 (lv_at hl 3 rfl) ?_
                        refine lv_istore (lv' := [(13, .int 1), (12, .int 0), (11, .ref (qa (35 + 3))), (10, .int 4), (9, .int 1), (8, .int r15), (0, .ref (qa 0)), (1, .int p1), (2, .int p2), (3, .int p3), (4, .int p4), (5, .int p5), (6, .int p6), (7, .int p7)]) X.1 X.2.1 dX5_felt_188 hl (by decide) rfl (fun ls hl => ?_)
                        have lp55 : ∀ (n55 : Nat) (v12_55 : Int32) (v13_55 : Int32) (ki_t_55 : Nat → Int32) (we_t_55 : Nat → Int32) (wo_t_55 : Nat → Int32) (E : Nat → va_E) (H : Heap) (locs : List Loc) (ls : Array Slot), lp (bX5_felt_190_3 itm_r p1 p2 p3 p5 p6 r54) n55 (v12_55, v13_55, ki_t_55, we_t_55, wo_t_55) = some R → va_P D vwCl (WD qa E) H → va_S (gA qa s.heap.size) s.heap H locs → Xo g qa E 0 img_x → Mu g qa E 1 men_n md_n day_n drw_n bu_n st_n ki_n we_n wo_n wr_n → Mu g qa E 35 r54.1 r54.2.1 r54.2.2.1 r54.2.2.2.1 r54.2.2.2.2.1 r54.2.2.2.2.2.1 ki_t_55 we_t_55 wo_t_55 r54.2.2.2.2.2.2.2.2.2 → Rs g qa E 55 th_r lan_r siz_r itm_r → (∀ j, (j < 35 ∨ 42 ≤ j) → E j = E0 j) → lv_has ls 14 [(0, .ref (qa 0)), (1, .int p1), (2, .int p2), (3, .int p3), (4, .int p4), (5, .int p5), (6, .int p6), (7, .int p7), (8, .int r15), (9, .int 1), (10, .int 4), (11, .ref (qa (35 + 3))), (12, .int v12_55), (13, .int v13_55)] → W p l e (rmf 5) s m args below meth c H locs 0 0 Q (F0 m 190 ls []) := by
                          intro n55
                          induction n55 with
                          | zero =>
                            intro v12_55 v13_55 ki_t_55 we_t_55 wo_t_55 E H locs ls hf
                            exact absurd hf (by intro h; cases h)
                          | succ n55 ih55 =>
                            intro v12_55 v13_55 ki_t_55 we_t_55 wo_t_55 E H locs ls hf hP hS hG_x hG_n hG_t hG_r hfr hl
                            have hf : bX5_felt_190_3 itm_r p1 p2 p3 p5 p6 r54 (lp (bX5_felt_190_3 itm_r p1 p2 p3 p5 p6 r54) n55) (v12_55, v13_55, ki_t_55, we_t_55, wo_t_55) = some R := hf
                            rw [bX5_felt_190_3] at hf
                            refine lv_iload X.1 X.2.1 dX5_felt_190 (lv_at hl 13 rfl) ?_
                            refine lv_iload X.1 X.2.1 dX5_felt_192 (lv_at hl 10 rfl) ?_
                            refine lv_icmp_gt (tgt := 236) X.1 X.2.1 dX5_felt_194 (by decide) (fun c56 => ?_) (fun c56 => ?_)
                            · have hf := ifp hf c56
                              refine lv_iload X.1 X.2.1 dX5_felt_236 (lv_at hl 12 rfl) ?_
                              obtain rfl := Option.some.inj hf
                              exact hret _ _ _ _ _ _ dX5_felt_238 rfl rfl (⟨hG_t, hfr⟩) hP hS
                            · have hf := ifn hf c56
                              refine lv_aload X.1 X.2.1 dX5_felt_197 (lv_at hl 11 rfl) ?_
                              refine lv_iload_n X.1 X.2.1 dX5_felt_199 rfl (lv_at hl 2 rfl) ?_
                              refine lv_iload X.1 X.2.1 dX5_felt_200 (lv_at hl 13 rfl) ?_
                              obtain ⟨hi57, hf⟩ := gin_of hf
                              refine x_iast X hP hS hG_t.2.2.2.1 (by omega) hi57 dX5_felt_202 (fun E H locs h1 hk hP hS => ?_)
                              have hG_t := Mu_set_3 hG_t h1 hk
                              have hG_x := Xo_kept hG_x (fun j h8 h9 => hk j (by omega))
                              have hG_n := Mu_kept hG_n (fun j h8 h9 => hk j (by omega))
                              have hG_r := Rs_kept hG_r (fun j h8 h9 => hk j (by omega))
                              have hfr : ∀ j, (j < 35 ∨ 42 ≤ j) → E j = E0 j := fun j o0 => (hk j (by omega)).trans (hfr j o0)
                              refine lv_aload_n X.1 X.2.1 dX5_felt_203 rfl (lv_at hl 0 rfl) ?_
                              refine lv_iload_n X.1 X.2.1 dX5_felt_204 rfl (lv_at hl 1 rfl) ?_
                              refine lv_aload_n X.1 X.2.1 dX5_felt_205 rfl (lv_at hl 0 rfl) ?_
                              refine x_get X hP hG_x (by omega) rfl in_X5_felt_X5 8 (by decide) (by decide +kernel) rfl rfl dX5_felt_206 ?_
                              refine lv_iload_n X.1 X.2.1 dX5_felt_209 rfl (lv_at hl 3 rfl) ?_
                              obtain ⟨hi58, hf⟩ := gin_of hf
                              have hj59 := in_lt hi58
                              refine x_aald X hP 4 rfl rfl hG_r.1 (by omega) hi58 dX5_felt_210 ?_
                              refine lv_iload X.1 X.2.1 dX5_felt_211 (lv_at hl 5 rfl) ?_
                              refine lv_iload X.1 X.2.1 dX5_felt_213 (lv_at hl 6 rfl) ?_
                              obtain ⟨r60, hr60, hf⟩ := bd_of hf
                              refine x_rdVi X hP hS hG_x (by omega) rfl (n := 4) (As := [.int p1, .ref (qa (55 + 1 + (Int32.toNatClampNeg p3))), .int p5, .int p6]) (ct_X5_trialIsTold hG_x hG_t (by omega) (Ro_of hG_r hj59) hr60) gX5_felt_X5_trialIsTold rfl (by decide +kernel) ⟨by decide, by decide⟩ rfl hl.1 rfl (Nat.le_of_ble_eq_true rfl) dX5_felt_215 (fun H locs hP hS => ?_)
                              refine lv_if_eq (tgt := 230) X.1 X.2.1 dX5_felt_218 (by decide) (fun c61 => ?_) (fun c61 => ?_)
                              · have hf := ifp hf c61
                                obtain ⟨x62, ex62, hf⟩ := nm_of hf
                                refine lv_iinc (v := x62) (lv' := [(13, .int x62), (0, .ref (qa 0)), (1, .int p1), (2, .int p2), (3, .int p3), (4, .int p4), (5, .int p5), (6, .int p6), (7, .int p7), (8, .int r15), (9, .int 1), (10, .int 4), (11, .ref (qa (35 + 3))), (12, .int v12_55)]) X.1 X.2.1 dX5_felt_230 hl (k := 13) rfl (by rw [ex62]; rfl) (by decide) rfl (fun ls hl => ?_)
                                refine lv_goto (tgt := 190) X.1 X.2.1 dX5_felt_233 (by decide) ?_
                                exact ih55 v12_55 x62 (upd ki_t_55 (Int32.toNatClampNeg p2) v13_55) we_t_55 wo_t_55 _ _ _ _ hf hP hS hG_x hG_n hG_t hG_r hfr (lv_sub hl [1, 2, 3, 4, 5, 6, 7, 8, 9, 10, 11, 12, 13, 0] rfl)
                              · have hf := ifn hf c61
                                refine lv_iload X.1 X.2.1 dX5_felt_221 (lv_at hl 12 rfl) ?_
                                refine lv_iconst (v := 1) X.1 X.2.1 dX5_felt_223 (by decide) ?_
                                refine lv_iload X.1 X.2.1 dX5_felt_224 (lv_at hl 13 rfl) ?_
                                refine lv_ishl X.1 X.2.1 dX5_felt_226 ?_
                                refine lv_ior X.1 X.2.1 dX5_felt_227 ?_
                                obtain ⟨x63, ex63, hf⟩ := nm_of hf
                                refine lv_top_as ex63 ?_
                                refine lv_istore (lv' := [(12, .int x63), (0, .ref (qa 0)), (1, .int p1), (2, .int p2), (3, .int p3), (4, .int p4), (5, .int p5), (6, .int p6), (7, .int p7), (8, .int r15), (9, .int 1), (10, .int 4), (11, .ref (qa (35 + 3))), (13, .int v13_55)]) X.1 X.2.1 dX5_felt_228 hl (by decide) rfl (fun ls hl => ?_)
                                obtain ⟨x64, ex64, hf⟩ := nm_of hf
                                refine lv_iinc (v := x64) (lv' := [(13, .int x64), (12, .int x63), (0, .ref (qa 0)), (1, .int p1), (2, .int p2), (3, .int p3), (4, .int p4), (5, .int p5), (6, .int p6), (7, .int p7), (8, .int r15), (9, .int 1), (10, .int 4), (11, .ref (qa (35 + 3)))]) X.1 X.2.1 dX5_felt_230 hl (k := 13) rfl (by rw [ex64]; rfl) (by decide) rfl (fun ls hl => ?_)
                                refine lv_goto (tgt := 190) X.1 X.2.1 dX5_felt_233 (by decide) ?_
                                exact ih55 x63 x64 (upd ki_t_55 (Int32.toNatClampNeg p2) v13_55) we_t_55 wo_t_55 _ _ _ _ hf hP hS hG_x hG_n hG_t hG_r hfr (lv_sub hl [2, 3, 4, 5, 6, 7, 8, 9, 10, 11, 12, 13, 1, 0] rfl)
                        exact lp55 FU 0 1 r54.2.2.2.2.2.2.1 r54.2.2.2.2.2.2.2.1 r54.2.2.2.2.2.2.2.2.1 _ _ _ _ hf hP hS hG_x hG_n hG_t hG_r hfr (lv_sub hl [6, 7, 8, 9, 10, 11, 12, 13, 5, 4, 3, 2, 1, 0] rfl)
                  · have hf := ifn hf c16
                    refine lv_iload X.1 X.2.1 dX5_felt_85 (lv_at hl 0 rfl) ?_
                    obtain rfl := Option.some.inj hf
                    exact hret _ _ _ _ _ _ dX5_felt_87 rfl rfl (⟨hG_t, hfr⟩) hP hS
                · have hf := ifn hf c12
                  refine lv_iconst (v := (-1)) X.1 X.2.1 dX5_felt_61 (by decide) ?_
                  obtain rfl := Option.some.inj hf
                  exact hret _ _ _ _ _ _ dX5_felt_62 rfl rfl (⟨hG_t, hfr⟩) hP hS
def fX5_few (p1 : Int32)  (men_n : Int32) (md_n : Int32) (day_n : Int32) (st_n : Nat → Int32) (ki_n : Nat → Int32) (we_n : Nat → Int32) (wo_n : Nat → Int32) (wr_n : Nat → Int32) (worn_h : Int32) (few_h : Int32) (bc_h : Int32) (ld_h : Nat → Nat → Int32) (so_h : Nat → Int32) (tr_h : Nat → Int32) (be_h : Nat → Int32) : Option (Int32 × Int32 × Int32 × Int32 × (Nat → Nat → Int32) × (Nat → Int32) × (Nat → Int32) × (Nat → Int32)) := if (-2) ≤ p1 then ((fX0_findFew ld_h so_h tr_h be_h men_n md_n day_n st_n ki_n we_n wo_n wr_n).bind (fun r2 => if p1 = (-2) then (some (r2.2.2.1 - r2.2.2.1 / 16 * 16, r2.1, r2.2.1, r2.2.2.1, r2.2.2.2.1, r2.2.2.2.2.1, r2.2.2.2.2.2.1, r2.2.2.2.2.2.2)) else (if p1 = (-1) then (some (r2.2.2.1 / 16, r2.1, r2.2.1, r2.2.2.1, r2.2.2.2.1, r2.2.2.2.2.1, r2.2.2.2.2.2.1, r2.2.2.2.2.2.2)) else ((fX0_wouldWear p1 r2.2.2.2.2.2.2).bind (fun r5 => some (r5, r2.1, r2.2.1, r2.2.2.1, r2.2.2.2.1, r2.2.2.2.2.1, r2.2.2.2.2.2.1, r2.2.2.2.2.2.2)))))) else (some ((-1), worn_h, few_h, bc_h, ld_h, so_h, tr_h, be_h))
theorem in_X5_few_X0 : ∀ w ∈ wsX00, w ∈ wsX5_few := by decide +kernel
theorem in_X5_few_X5 : ∀ w ∈ wsX50, w ∈ wsX5_few := by decide +kernel
set_option maxHeartbeats 4000000 in
set_option maxRecDepth 100000 in
theorem ct_X5_few {l : Launch} {D : va_G} {g : Nat → ClassId} {qa : Nat → Nat} {E0 : Nat → va_E} {p1 : Int32} {img_x : Int32} {men_n : Int32} {md_n : Int32} {day_n : Int32} {drw_n : Int32} {bu_n : Nat → Int32} {st_n : Nat → Int32} {ki_n : Nat → Int32} {we_n : Nat → Int32} {wo_n : Nat → Int32} {wr_n : Nat → Int32} {worn_h : Int32} {few_h : Int32} {bc_h : Int32} {ld_h : Nat → Nat → Int32} {so_h : Nat → Int32} {tr_h : Nat → Int32} {be_h : Nat → Int32} {wy_h : Nat → Int32} (hG_x : Xo g qa E0 0 img_x) (hG_n : Mu g qa E0 1 men_n md_n day_n drw_n bu_n st_n ki_n we_n wo_n wr_n) (hG_h : Ha g qa E0 44 worn_h few_h bc_h ld_h so_h tr_h be_h wy_h) {R : (Int32 × Int32 × Int32 × Int32 × (Nat → Nat → Int32) × (Nat → Int32) × (Nat → Int32) × (Nat → Int32))} (hf : fX5_few p1 men_n md_n day_n st_n ki_n we_n wo_n wr_n worn_h few_h bc_h ld_h so_h tr_h be_h = some R) : MI l yX5_few wsX5_few 14 D g qa E0 [.ref (qa 0), .int p1] R.1 (fun E => Ha g qa E 44 R.2.1 R.2.2.1 R.2.2.2.1 R.2.2.2.2.1 R.2.2.2.2.2.1 R.2.2.2.2.2.2.1 R.2.2.2.2.2.2.2 wy_h ∧ ∀ j, (j < 44 ∨ 55 ≤ j) → E j = E0 j) := by
  refine MI.mk (by decide) rfl (Nat.le_of_ble_eq_true rfl) ?_
  intro p e s m args below meth c ls Q X hret hP hS hl
  have hl : lv_has ls 2 [(0, .ref (qa 0)), (1, .int p1)] := hl
  have hfr : ∀ j, (j < 44 ∨ 55 ≤ j) → E0 j = E0 j := fun _ _ => rfl
  rw [fX5_few] at hf
  refine lv_iload_n X.1 X.2.1 dX5_few_0 rfl (lv_at hl 1 rfl) ?_
  refine lv_bipush (v := (-2)) X.1 X.2.1 dX5_few_1 (by decide) ?_
  refine lv_icmp_ge (tgt := 8) X.1 X.2.1 dX5_few_3 (by decide) (fun c1 => ?_) (fun c1 => ?_)
  · have hf := ifp hf c1
    refine lv_aload_n X.1 X.2.1 dX5_few_8 rfl (lv_at hl 0 rfl) ?_
    refine x_get X hP hG_x (by omega) rfl in_X5_few_X5 7 (by decide) (by decide +kernel) rfl rfl dX5_few_9 ?_
    obtain ⟨r2, hr2, hf⟩ := bd_of hf
    refine x_callVv X hP hS hG_h.1 (by omega) rfl (n := 0) (As := []) (ct_X0_findFew hG_h hG_n hr2) gX5_few_X0_findFew rfl (by decide +kernel) ⟨by decide, by decide⟩ rfl hl.1 rfl (Nat.le_of_ble_eq_true rfl) dX5_few_12 (fun E H locs hp hP hS => ?_)
    obtain ⟨hW_h, hk⟩ := hp
    have hG_h := hW_h
    have hG_x := Xo_kept hG_x (fun j h8 h9 => hk j (by omega))
    have hG_n := Mu_kept hG_n (fun j h8 h9 => hk j (by omega))
    have hfr : ∀ j, (j < 44 ∨ 55 ≤ j) → E j = E0 j := fun j o0 => (hk j (by omega)).trans (hfr j o0)
    refine lv_iload_n X.1 X.2.1 dX5_few_15 rfl (lv_at hl 1 rfl) ?_
    by_cases w3 : p1 = (-2)
    · have hf := ifp hf w3
      refine lv_lookup (tgt := 55) X.1 X.2.1 dX5_few_16 (by decide) (off := 39) (by rw [w3]; decide) (by decide) ?_
      refine lv_aload_n X.1 X.2.1 dX5_few_55 rfl (lv_at hl 0 rfl) ?_
      refine x_get X hP hG_x (by omega) rfl in_X5_few_X5 7 (by decide) (by decide +kernel) rfl rfl dX5_few_56 ?_
      refine x_get X hP hG_h.1 (by omega) rfl in_X5_few_X0 8 (by decide) (by decide +kernel) rfl rfl dX5_few_59 ?_
      refine lv_bipush (v := 16) X.1 X.2.1 dX5_few_62 (by decide) ?_
      refine lv_irem X.1 X.2.1 dX5_few_64 (by decide) ?_
      obtain rfl := Option.some.inj hf
      exact hret _ _ _ _ _ _ dX5_few_65 rfl rfl (⟨hG_h, hfr⟩) hP hS
    have hf := ifn hf w3
    by_cases w4 : p1 = (-1)
    · have hf := ifp hf w4
      refine lv_lookup (tgt := 44) X.1 X.2.1 dX5_few_16 (by decide) (off := 28) (by rw [w4]; decide) (by decide) ?_
      refine lv_aload_n X.1 X.2.1 dX5_few_44 rfl (lv_at hl 0 rfl) ?_
      refine x_get X hP hG_x (by omega) rfl in_X5_few_X5 7 (by decide) (by decide +kernel) rfl rfl dX5_few_45 ?_
      refine x_get X hP hG_h.1 (by omega) rfl in_X5_few_X0 8 (by decide) (by decide +kernel) rfl rfl dX5_few_48 ?_
      refine lv_bipush (v := 16) X.1 X.2.1 dX5_few_51 (by decide) ?_
      refine lv_idiv X.1 X.2.1 dX5_few_53 (by decide) ?_
      obtain rfl := Option.some.inj hf
      exact hret _ _ _ _ _ _ dX5_few_54 rfl rfl (⟨hG_h, hfr⟩) hP hS
    have hf := ifn hf w4
    refine lv_lookup (tgt := 66) X.1 X.2.1 dX5_few_16 (by decide) (off := 50) (by have := i_ne (-2) ((-2)) (by decide) w3; have := i_ne (-1) ((-1)) (by decide) w4; show Op.lookupswitch.offset [((-2), 39), ((-1), 28)] 50 _ = 50; rw [Op.lookupswitch.offset_cons, if_neg (by omega), Op.lookupswitch.offset_cons, if_neg (by omega), Op.lookupswitch.offset_nil]) (by decide) ?_
    refine lv_aload_n X.1 X.2.1 dX5_few_66 rfl (lv_at hl 0 rfl) ?_
    refine x_get X hP hG_x (by omega) rfl in_X5_few_X5 7 (by decide) (by decide +kernel) rfl rfl dX5_few_67 ?_
    refine lv_iload_n X.1 X.2.1 dX5_few_70 rfl (lv_at hl 1 rfl) ?_
    obtain ⟨r5, hr5, hf⟩ := bd_of hf
    refine x_rdVi X hP hS hG_h.1 (by omega) rfl (n := 1) (As := [.int p1]) (ct_X0_wouldWear hG_h hr5) gX5_few_X0_wouldWear rfl (by decide +kernel) ⟨by decide, by decide⟩ rfl hl.1 rfl (Nat.le_of_ble_eq_true rfl) dX5_few_71 (fun H locs hP hS => ?_)
    obtain rfl := Option.some.inj hf
    exact hret _ _ _ _ _ _ dX5_few_74 rfl rfl (⟨hG_h, hfr⟩) hP hS
  · have hf := ifn hf c1
    refine lv_iconst (v := (-1)) X.1 X.2.1 dX5_few_6 (by decide) ?_
    obtain rfl := Option.some.inj hf
    exact hret _ _ _ _ _ _ dX5_few_7 rfl rfl (⟨hG_h, hfr⟩) hP hS
