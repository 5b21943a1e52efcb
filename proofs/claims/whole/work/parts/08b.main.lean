set_option maxRecDepth 20000 in
theorem ggX5_man_X2_forget : GoodIn wsX5_man wsX2_forget := goodIn_r _ [8, 9, 37, 38, 39] (by decide +kernel) (by decide +kernel)
set_option maxRecDepth 20000 in
theorem gX5_man_X2_forget : GoodIn wsX5_man (wsV RX5 63 RX2 yX2_forget wsX2_forget) := goodIn_app (goodIn_of _ (by decide +kernel)) ggX5_man_X2_forget
set_option maxRecDepth 20000 in
theorem ggX5_man_X1_addMan : GoodIn wsX5_man wsX1_addMan := goodIn_r _ [14, 15, 16, 17, 27, 28, 29, 30, 31, 32, 33, 34, 35, 36] (by decide +kernel) (by decide +kernel)
set_option maxRecDepth 20000 in
theorem gX5_man_X1_addMan : GoodIn wsX5_man (wsV RX5 66 RX1 yX1_addMan wsX1_addMan) := goodIn_app (goodIn_of _ (by decide +kernel)) ggX5_man_X1_addMan
theorem dX5_man_0 : decode cX5_man 0 = .ok (.iload_n 1, 1) := by decide +kernel
theorem dX5_man_1 : decode cX5_man 1 = .ok (.iconst 1, 1) := by decide +kernel
theorem dX5_man_2 : decode cX5_man 2 = .ok (.if_icmp .lt 9, 3) := by decide +kernel
theorem dX5_man_5 : decode cX5_man 5 = .ok (.iload_n 1, 1) := by decide +kernel
theorem dX5_man_6 : decode cX5_man 6 = .ok (.bipush 60, 2) := by decide +kernel
theorem dX5_man_8 : decode cX5_man 8 = .ok (.if_icmp .le 5, 3) := by decide +kernel
theorem dX5_man_11 : decode cX5_man 11 = .ok (.iconst (-1), 1) := by decide +kernel
theorem dX5_man_12 : decode cX5_man 12 = .ok (.ireturn, 1) := by decide +kernel
theorem dX5_man_13 : decode cX5_man 13 = .ok (.aload_n 0, 1) := by decide +kernel
theorem dX5_man_14 : decode cX5_man 14 = .ok (.getfield 10, 3) := by decide +kernel
theorem dX5_man_17 : decode cX5_man 17 = .ok (.getfield 59, 3) := by decide +kernel
theorem dX5_man_20 : decode cX5_man 20 = .ok (.iconst 5, 1) := by decide +kernel
theorem dX5_man_21 : decode cX5_man 21 = .ok (.if_icmp .lt 6, 3) := by decide +kernel
theorem dX5_man_24 : decode cX5_man 24 = .ok (.bipush (-3), 2) := by decide +kernel
theorem dX5_man_26 : decode cX5_man 26 = .ok (.ireturn, 1) := by decide +kernel
theorem dX5_man_27 : decode cX5_man 27 = .ok (.aload_n 0, 1) := by decide +kernel
theorem dX5_man_28 : decode cX5_man 28 = .ok (.getfield 19, 3) := by decide +kernel
theorem dX5_man_31 : decode cX5_man 31 = .ok (.invokevirtual 63, 3) := by decide +kernel
theorem dX5_man_34 : decode cX5_man 34 = .ok (.aload_n 0, 1) := by decide +kernel
theorem dX5_man_35 : decode cX5_man 35 = .ok (.getfield 10, 3) := by decide +kernel
theorem dX5_man_38 : decode cX5_man 38 = .ok (.iload_n 1, 1) := by decide +kernel
theorem dX5_man_39 : decode cX5_man 39 = .ok (.iload_n 1, 1) := by decide +kernel
theorem dX5_man_40 : decode cX5_man 40 = .ok (.invokevirtual 66, 3) := by decide +kernel
theorem dX5_man_43 : decode cX5_man 43 = .ok (.ireturn, 1) := by decide +kernel
set_option maxRecDepth 20000 in
theorem ggX5_medal_X1_hasMan : GoodIn wsX5_medal wsX1_hasMan := goodIn_r _ [8, 9, 34, 35, 36, 37, 38, 39, 40, 41, 42, 43] (by decide +kernel) (by decide +kernel)
set_option maxRecDepth 20000 in
theorem gX5_medal_X1_hasMan : GoodIn wsX5_medal (wsV RX5 70 RX1 yX1_hasMan wsX1_hasMan) := goodIn_app (goodIn_of _ (by decide +kernel)) ggX5_medal_X1_hasMan
set_option maxRecDepth 20000 in
theorem ggX5_medal_X2_forget : GoodIn wsX5_medal wsX2_forget := goodIn_r _ [14, 15, 44, 45, 46] (by decide +kernel) (by decide +kernel)
set_option maxRecDepth 20000 in
theorem gX5_medal_X2_forget : GoodIn wsX5_medal (wsV RX5 63 RX2 yX2_forget wsX2_forget) := goodIn_app (goodIn_of _ (by decide +kernel)) ggX5_medal_X2_forget
set_option maxRecDepth 20000 in
theorem ggX5_medal_X1_addMedal : GoodIn wsX5_medal wsX1_addMedal := goodIn_r _ [19, 20, 21, 22, 23, 24, 34, 35, 36, 37, 38, 39, 40, 41, 42, 43] (by decide +kernel) (by decide +kernel)
set_option maxRecDepth 20000 in
theorem gX5_medal_X1_addMedal : GoodIn wsX5_medal (wsV RX5 77 RX1 yX1_addMedal wsX1_addMedal) := goodIn_app (goodIn_of _ (by decide +kernel)) ggX5_medal_X1_addMedal
theorem dX5_medal_0 : decode cX5_medal 0 = .ok (.iload_n 1, 1) := by decide +kernel
theorem dX5_medal_1 : decode cX5_medal 1 = .ok (.ifCond .lt 30, 3) := by decide +kernel
theorem dX5_medal_4 : decode cX5_medal 4 = .ok (.iload_n 1, 1) := by decide +kernel
theorem dX5_medal_5 : decode cX5_medal 5 = .ok (.iconst 4, 1) := by decide +kernel
theorem dX5_medal_6 : decode cX5_medal 6 = .ok (.if_icmp .gt 25, 3) := by decide +kernel
theorem dX5_medal_9 : decode cX5_medal 9 = .ok (.iload_n 2, 1) := by decide +kernel
theorem dX5_medal_10 : decode cX5_medal 10 = .ok (.iconst 1, 1) := by decide +kernel
theorem dX5_medal_11 : decode cX5_medal 11 = .ok (.if_icmp .lt 20, 3) := by decide +kernel
theorem dX5_medal_14 : decode cX5_medal 14 = .ok (.iload_n 2, 1) := by decide +kernel
theorem dX5_medal_15 : decode cX5_medal 15 = .ok (.bipush 20, 2) := by decide +kernel
theorem dX5_medal_17 : decode cX5_medal 17 = .ok (.if_icmp .gt 14, 3) := by decide +kernel
theorem dX5_medal_20 : decode cX5_medal 20 = .ok (.aload_n 0, 1) := by decide +kernel
theorem dX5_medal_21 : decode cX5_medal 21 = .ok (.getfield 10, 3) := by decide +kernel
theorem dX5_medal_24 : decode cX5_medal 24 = .ok (.iload_n 3, 1) := by decide +kernel
theorem dX5_medal_25 : decode cX5_medal 25 = .ok (.invokevirtual 70, 3) := by decide +kernel
theorem dX5_medal_28 : decode cX5_medal 28 = .ok (.ifCond .ne 5, 3) := by decide +kernel
theorem dX5_medal_31 : decode cX5_medal 31 = .ok (.iconst (-1), 1) := by decide +kernel
theorem dX5_medal_32 : decode cX5_medal 32 = .ok (.ireturn, 1) := by decide +kernel
theorem dX5_medal_33 : decode cX5_medal 33 = .ok (.aload_n 0, 1) := by decide +kernel
theorem dX5_medal_34 : decode cX5_medal 34 = .ok (.getfield 10, 3) := by decide +kernel
theorem dX5_medal_37 : decode cX5_medal 37 = .ok (.getfield 74, 3) := by decide +kernel
theorem dX5_medal_40 : decode cX5_medal 40 = .ok (.bipush 6, 2) := by decide +kernel
theorem dX5_medal_42 : decode cX5_medal 42 = .ok (.if_icmp .lt 6, 3) := by decide +kernel
theorem dX5_medal_45 : decode cX5_medal 45 = .ok (.bipush (-3), 2) := by decide +kernel
theorem dX5_medal_47 : decode cX5_medal 47 = .ok (.ireturn, 1) := by decide +kernel
theorem dX5_medal_48 : decode cX5_medal 48 = .ok (.aload_n 0, 1) := by decide +kernel
theorem dX5_medal_49 : decode cX5_medal 49 = .ok (.getfield 19, 3) := by decide +kernel
theorem dX5_medal_52 : decode cX5_medal 52 = .ok (.invokevirtual 63, 3) := by decide +kernel
theorem dX5_medal_55 : decode cX5_medal 55 = .ok (.aload_n 0, 1) := by decide +kernel
theorem dX5_medal_56 : decode cX5_medal 56 = .ok (.getfield 10, 3) := by decide +kernel
theorem dX5_medal_59 : decode cX5_medal 59 = .ok (.iload_n 1, 1) := by decide +kernel
theorem dX5_medal_60 : decode cX5_medal 60 = .ok (.iload_n 2, 1) := by decide +kernel
theorem dX5_medal_61 : decode cX5_medal 61 = .ok (.iload_n 3, 1) := by decide +kernel
theorem dX5_medal_62 : decode cX5_medal 62 = .ok (.bipush (-4), 2) := by decide +kernel
theorem dX5_medal_64 : decode cX5_medal 64 = .ok (.invokevirtual 77, 3) := by decide +kernel
theorem dX5_medal_67 : decode cX5_medal 67 = .ok (.ireturn, 1) := by decide +kernel
set_option maxRecDepth 20000 in
theorem ggX5_of_X1_hasMan : GoodIn wsX5_of wsX1_hasMan := goodIn_r _ [9, 10, 64, 65, 66, 67, 68, 69, 70, 71, 72, 73] (by decide +kernel) (by decide +kernel)
set_option maxRecDepth 20000 in
theorem gX5_of_X1_hasMan : GoodIn wsX5_of (wsV RX5 70 RX1 yX1_hasMan wsX1_hasMan) := goodIn_app (goodIn_of _ (by decide +kernel)) ggX5_of_X1_hasMan
set_option maxRecDepth 20000 in
theorem ggX5_of_X1_loadOn : GoodIn wsX5_of wsX1_loadOn := goodIn_r _ [14, 15, 16, 17, 8, 18, 19, 20, 21, 22, 23, 24, 25, 26, 27, 28, 29, 30, 31, 32, 33, 34, 35, 36, 37, 38, 39, 40, 41, 42, 64, 65, 66, 67, 68, 69, 70, 71, 72, 73] (by decide +kernel) (by decide +kernel)
set_option maxRecDepth 20000 in
theorem gX5_of_X1_loadOn : GoodIn wsX5_of (wsV RX5 91 RX1 yX1_loadOn wsX1_loadOn) := goodIn_app (goodIn_of _ (by decide +kernel)) ggX5_of_X1_loadOn
set_option maxRecDepth 20000 in
theorem ggX5_of_X1_isBent : GoodIn wsX5_of wsX1_isBent := goodIn_r _ [46, 47, 48, 49, 12, 13, 8, 14, 15, 16, 17, 18, 19, 20, 21, 22, 23, 24, 25, 26, 27, 28, 29, 30, 31, 32, 33, 34, 35, 36, 37, 38, 39, 40, 41, 42, 64, 65, 66, 67, 68, 69, 70, 71, 72, 73] (by decide +kernel) (by decide +kernel)
set_option maxRecDepth 20000 in
theorem gX5_of_X1_isBent : GoodIn wsX5_of (wsV RX5 94 RX1 yX1_isBent wsX1_isBent) := goodIn_app (goodIn_of _ (by decide +kernel)) ggX5_of_X1_isBent
set_option maxRecDepth 20000 in
theorem ggX5_of_X1_wornBy : GoodIn wsX5_of wsX1_wornBy := goodIn_r _ [18, 19, 20, 21, 22, 8, 23, 24, 64, 65, 66, 67, 68, 69, 70, 71, 72, 73] (by decide +kernel) (by decide +kernel)
set_option maxRecDepth 20000 in
theorem gX5_of_X1_wornBy : GoodIn wsX5_of (wsV RX5 97 RX1 yX1_wornBy wsX1_wornBy) := goodIn_app (goodIn_of _ (by decide +kernel)) ggX5_of_X1_wornBy
set_option maxRecDepth 20000 in
theorem ggX5_of_X1_woundsOf : GoodIn wsX5_of wsX1_woundsOf := goodIn_r _ [54, 42, 20, 21, 22, 8, 23, 24, 64, 65, 66, 67, 68, 69, 70, 71, 72, 73] (by decide +kernel) (by decide +kernel)
set_option maxRecDepth 20000 in
theorem gX5_of_X1_woundsOf : GoodIn wsX5_of (wsV RX5 101 RX1 yX1_woundsOf wsX1_woundsOf) := goodIn_app (goodIn_of _ (by decide +kernel)) ggX5_of_X1_woundsOf
theorem dX5_of_0 : decode cX5_of 0 = .ok (.aload_n 0, 1) := by decide +kernel
theorem dX5_of_1 : decode cX5_of 1 = .ok (.getfield 10, 3) := by decide +kernel
theorem dX5_of_4 : decode cX5_of 4 = .ok (.iload_n 1, 1) := by decide +kernel
theorem dX5_of_5 : decode cX5_of 5 = .ok (.invokevirtual 70, 3) := by decide +kernel
theorem dX5_of_8 : decode cX5_of 8 = .ok (.ifCond .ne 5, 3) := by decide +kernel
theorem dX5_of_11 : decode cX5_of 11 = .ok (.iconst (-1), 1) := by decide +kernel
theorem dX5_of_12 : decode cX5_of 12 = .ok (.ireturn, 1) := by decide +kernel
theorem dX5_of_13 : decode cX5_of 13 = .ok (.iload_n 2, 1) := by decide +kernel
theorem dX5_of_14 : decode cX5_of 14 = .ok (.tableswitch 109 0 5 #[38, 48, 58, 74, 91, 100], 38) := by decide +kernel
theorem dX5_of_52 : decode cX5_of 52 = .ok (.aload_n 0, 1) := by decide +kernel
theorem dX5_of_53 : decode cX5_of 53 = .ok (.getfield 10, 3) := by decide +kernel
theorem dX5_of_56 : decode cX5_of 56 = .ok (.getfield 81, 3) := by decide +kernel
theorem dX5_of_59 : decode cX5_of 59 = .ok (.iload_n 1, 1) := by decide +kernel
theorem dX5_of_60 : decode cX5_of 60 = .ok (.iaload, 1) := by decide +kernel
theorem dX5_of_61 : decode cX5_of 61 = .ok (.ireturn, 1) := by decide +kernel
theorem dX5_of_62 : decode cX5_of 62 = .ok (.aload_n 0, 1) := by decide +kernel
theorem dX5_of_63 : decode cX5_of 63 = .ok (.getfield 10, 3) := by decide +kernel
theorem dX5_of_66 : decode cX5_of 66 = .ok (.getfield 85, 3) := by decide +kernel
theorem dX5_of_69 : decode cX5_of 69 = .ok (.iload_n 1, 1) := by decide +kernel
theorem dX5_of_70 : decode cX5_of 70 = .ok (.iaload, 1) := by decide +kernel
theorem dX5_of_71 : decode cX5_of 71 = .ok (.ireturn, 1) := by decide +kernel
theorem dX5_of_72 : decode cX5_of 72 = .ok (.aload_n 0, 1) := by decide +kernel
theorem dX5_of_73 : decode cX5_of 73 = .ok (.getfield 10, 3) := by decide +kernel
theorem dX5_of_76 : decode cX5_of 76 = .ok (.iload_n 1, 1) := by decide +kernel
theorem dX5_of_77 : decode cX5_of 77 = .ok (.aload_n 0, 1) := by decide +kernel
theorem dX5_of_78 : decode cX5_of 78 = .ok (.getfield 10, 3) := by decide +kernel
theorem dX5_of_81 : decode cX5_of 81 = .ok (.getfield 88, 3) := by decide +kernel
theorem dX5_of_84 : decode cX5_of 84 = .ok (.invokevirtual 91, 3) := by decide +kernel
theorem dX5_of_87 : decode cX5_of 87 = .ok (.ireturn, 1) := by decide +kernel
theorem dX5_of_88 : decode cX5_of 88 = .ok (.aload_n 0, 1) := by decide +kernel
theorem dX5_of_89 : decode cX5_of 89 = .ok (.getfield 10, 3) := by decide +kernel
theorem dX5_of_92 : decode cX5_of 92 = .ok (.iload_n 1, 1) := by decide +kernel
theorem dX5_of_93 : decode cX5_of 93 = .ok (.invokevirtual 94, 3) := by decide +kernel
theorem dX5_of_96 : decode cX5_of 96 = .ok (.ifCond .eq 7, 3) := by decide +kernel
theorem dX5_of_99 : decode cX5_of 99 = .ok (.iconst 1, 1) := by decide +kernel
theorem dX5_of_100 : decode cX5_of 100 = .ok (.goto 4, 3) := by decide +kernel
theorem dX5_of_103 : decode cX5_of 103 = .ok (.iconst 0, 1) := by decide +kernel
theorem dX5_of_104 : decode cX5_of 104 = .ok (.ireturn, 1) := by decide +kernel
theorem dX5_of_105 : decode cX5_of 105 = .ok (.aload_n 0, 1) := by decide +kernel
theorem dX5_of_106 : decode cX5_of 106 = .ok (.getfield 10, 3) := by decide +kernel
theorem dX5_of_109 : decode cX5_of 109 = .ok (.iload_n 1, 1) := by decide +kernel
theorem dX5_of_110 : decode cX5_of 110 = .ok (.invokevirtual 97, 3) := by decide +kernel
theorem dX5_of_113 : decode cX5_of 113 = .ok (.ireturn, 1) := by decide +kernel
theorem dX5_of_114 : decode cX5_of 114 = .ok (.aload_n 0, 1) := by decide +kernel
theorem dX5_of_115 : decode cX5_of 115 = .ok (.getfield 10, 3) := by decide +kernel
theorem dX5_of_118 : decode cX5_of 118 = .ok (.iload_n 1, 1) := by decide +kernel
theorem dX5_of_119 : decode cX5_of 119 = .ok (.invokevirtual 101, 3) := by decide +kernel
theorem dX5_of_122 : decode cX5_of 122 = .ok (.ireturn, 1) := by decide +kernel
theorem dX5_of_123 : decode cX5_of 123 = .ok (.iconst (-1), 1) := by decide +kernel
theorem dX5_of_124 : decode cX5_of 124 = .ok (.ireturn, 1) := by decide +kernel
set_option maxRecDepth 20000 in
theorem ggX5_type_X4_add : GoodIn wsX5_type wsX4_add := goodIn_r _ [7, 8, 9, 19, 20, 21] (by decide +kernel) (by decide +kernel)
set_option maxRecDepth 20000 in
theorem gX5_type_X4_add : GoodIn wsX5_type (wsV RX5 122 RX4 yX4_add wsX4_add) := goodIn_app (goodIn_of _ (by decide +kernel)) ggX5_type_X4_add
theorem dX5_type_0 : decode cX5_type 0 = .ok (.iload_n 1, 1) := by decide +kernel
theorem dX5_type_1 : decode cX5_type 1 = .ok (.bipush 32, 2) := by decide +kernel
theorem dX5_type_3 : decode cX5_type 3 = .ok (.if_icmp .lt 9, 3) := by decide +kernel
theorem dX5_type_6 : decode cX5_type 6 = .ok (.iload_n 1, 1) := by decide +kernel
theorem dX5_type_7 : decode cX5_type 7 = .ok (.bipush 126, 2) := by decide +kernel
theorem dX5_type_9 : decode cX5_type 9 = .ok (.if_icmp .le 5, 3) := by decide +kernel
theorem dX5_type_12 : decode cX5_type 12 = .ok (.iconst (-1), 1) := by decide +kernel
theorem dX5_type_13 : decode cX5_type 13 = .ok (.ireturn, 1) := by decide +kernel
theorem dX5_type_14 : decode cX5_type 14 = .ok (.aload_n 0, 1) := by decide +kernel
theorem dX5_type_15 : decode cX5_type 15 = .ok (.getfield 39, 3) := by decide +kernel
theorem dX5_type_18 : decode cX5_type 18 = .ok (.iload_n 1, 1) := by decide +kernel
theorem dX5_type_19 : decode cX5_type 19 = .ok (.i2c, 1) := by decide +kernel
theorem dX5_type_20 : decode cX5_type 20 = .ok (.invokevirtual 122, 3) := by decide +kernel
theorem dX5_type_23 : decode cX5_type 23 = .ok (.ifCond .eq 13, 3) := by decide +kernel
theorem dX5_type_26 : decode cX5_type 26 = .ok (.aload_n 0, 1) := by decide +kernel
theorem dX5_type_27 : decode cX5_type 27 = .ok (.getfield 39, 3) := by decide +kernel
theorem dX5_type_30 : decode cX5_type 30 = .ok (.getfield 126, 3) := by decide +kernel
theorem dX5_type_33 : decode cX5_type 33 = .ok (.goto 5, 3) := by decide +kernel
theorem dX5_type_36 : decode cX5_type 36 = .ok (.bipush (-3), 2) := by decide +kernel
theorem dX5_type_38 : decode cX5_type 38 = .ok (.ireturn, 1) := by decide +kernel
set_option maxRecDepth 20000 in
theorem ggX5_state_X1_clear : GoodIn wsX5_state wsX1_clear := goodIn_r _ [13, 14, 15, 16, 109, 110, 111, 112, 113, 114, 115, 116, 117, 118] (by decide +kernel) (by decide +kernel)
set_option maxRecDepth 20000 in
theorem gX5_state_X1_clear : GoodIn wsX5_state (wsV RX5 129 RX1 yX1_clear wsX1_clear) := goodIn_app (goodIn_of _ (by decide +kernel)) ggX5_state_X1_clear
set_option maxRecDepth 20000 in
theorem ggX5_state_X4_readState : GoodIn wsX5_state wsX4_readState := goodIn_r _ [21, 22, 23, 24, 25, 20, 26, 27, 28, 29, 30, 31, 32, 33, 34, 35, 36, 37, 38, 39, 40, 41, 42, 43, 44, 45, 46, 47, 48, 49, 50, 51, 52, 53, 54, 12, 55, 14, 56, 57, 58, 59, 60, 61, 62, 63, 64, 65, 66, 67, 68, 69, 70, 71, 72, 73, 74, 75, 76, 77, 78, 79, 80, 15, 81, 82, 83, 84, 119, 120, 121, 109, 110, 111, 112, 113, 114, 115, 116, 117, 118] (by decide +kernel) (by decide +kernel)
set_option maxRecDepth 20000 in
theorem gX5_state_X4_readState : GoodIn wsX5_state (wsV RX5 135 RX4 yX4_readState wsX4_readState) := goodIn_app (goodIn_of _ (by decide +kernel)) ggX5_state_X4_readState
set_option maxRecDepth 20000 in
theorem ggX5_state_X1_take : GoodIn wsX5_state wsX1_take := goodIn_r _ [88, 14, 56, 89, 90, 91, 92, 57, 15, 81, 82, 83, 84, 16, 93, 109, 110, 111, 112, 113, 114, 115, 116, 117, 118] (by decide +kernel) (by decide +kernel)
set_option maxRecDepth 20000 in
theorem gX5_state_X1_take : GoodIn wsX5_state (wsV RX5 142 RX1 yX1_take wsX1_take) := goodIn_app (goodIn_of _ (by decide +kernel)) ggX5_state_X1_take
set_option maxRecDepth 20000 in
theorem ggX5_state_X2_forget : GoodIn wsX5_state wsX2_forget := goodIn_r _ [98, 99, 122, 123, 124] (by decide +kernel) (by decide +kernel)
set_option maxRecDepth 20000 in
theorem gX5_state_X2_forget : GoodIn wsX5_state (wsV RX5 63 RX2 yX2_forget wsX2_forget) := goodIn_app (goodIn_of _ (by decide +kernel)) ggX5_state_X2_forget
theorem dX5_state_0 : decode cX5_state 0 = .ok (.aload_n 0, 1) := by decide +kernel
theorem dX5_state_1 : decode cX5_state 1 = .ok (.getfield 33, 3) := by decide +kernel
theorem dX5_state_4 : decode cX5_state 4 = .ok (.invokevirtual 129, 3) := by decide +kernel
theorem dX5_state_7 : decode cX5_state 7 = .ok (.aload_n 0, 1) := by decide +kernel
theorem dX5_state_8 : decode cX5_state 8 = .ok (.getfield 33, 3) := by decide +kernel
theorem dX5_state_11 : decode cX5_state 11 = .ok (.aload_n 0, 1) := by decide +kernel
theorem dX5_state_12 : decode cX5_state 12 = .ok (.getfield 10, 3) := by decide +kernel
theorem dX5_state_15 : decode cX5_state 15 = .ok (.getfield 132, 3) := by decide +kernel
theorem dX5_state_18 : decode cX5_state 18 = .ok (.putfield 132, 3) := by decide +kernel
theorem dX5_state_21 : decode cX5_state 21 = .ok (.aload_n 0, 1) := by decide +kernel
theorem dX5_state_22 : decode cX5_state 22 = .ok (.getfield 39, 3) := by decide +kernel
theorem dX5_state_25 : decode cX5_state 25 = .ok (.aload_n 0, 1) := by decide +kernel
theorem dX5_state_26 : decode cX5_state 26 = .ok (.getfield 33, 3) := by decide +kernel
theorem dX5_state_29 : decode cX5_state 29 = .ok (.invokevirtual 135, 3) := by decide +kernel
theorem dX5_state_32 : decode cX5_state 32 = .ok (.istore_n 1, 1) := by decide +kernel
theorem dX5_state_33 : decode cX5_state 33 = .ok (.aload_n 0, 1) := by decide +kernel
theorem dX5_state_34 : decode cX5_state 34 = .ok (.getfield 39, 3) := by decide +kernel
theorem dX5_state_37 : decode cX5_state 37 = .ok (.getfield 139, 3) := by decide +kernel
theorem dX5_state_40 : decode cX5_state 40 = .ok (.istore_n 2, 1) := by decide +kernel
theorem dX5_state_41 : decode cX5_state 41 = .ok (.aload_n 0, 1) := by decide +kernel
theorem dX5_state_42 : decode cX5_state 42 = .ok (.getfield 39, 3) := by decide +kernel
theorem dX5_state_45 : decode cX5_state 45 = .ok (.iconst 0, 1) := by decide +kernel
theorem dX5_state_46 : decode cX5_state 46 = .ok (.putfield 126, 3) := by decide +kernel
theorem dX5_state_49 : decode cX5_state 49 = .ok (.iload_n 1, 1) := by decide +kernel
theorem dX5_state_50 : decode cX5_state 50 = .ok (.ifCond .ne 8, 3) := by decide +kernel
theorem dX5_state_53 : decode cX5_state 53 = .ok (.bipush (-20), 2) := by decide +kernel
theorem dX5_state_55 : decode cX5_state 55 = .ok (.iload_n 2, 1) := by decide +kernel
theorem dX5_state_56 : decode cX5_state 56 = .ok (.isub, 1) := by decide +kernel
theorem dX5_state_57 : decode cX5_state 57 = .ok (.ireturn, 1) := by decide +kernel
theorem dX5_state_58 : decode cX5_state 58 = .ok (.aload_n 0, 1) := by decide +kernel
theorem dX5_state_59 : decode cX5_state 59 = .ok (.getfield 10, 3) := by decide +kernel
theorem dX5_state_62 : decode cX5_state 62 = .ok (.aload_n 0, 1) := by decide +kernel
theorem dX5_state_63 : decode cX5_state 63 = .ok (.getfield 33, 3) := by decide +kernel
theorem dX5_state_66 : decode cX5_state 66 = .ok (.invokevirtual 142, 3) := by decide +kernel
theorem dX5_state_69 : decode cX5_state 69 = .ok (.aload_n 0, 1) := by decide +kernel
theorem dX5_state_70 : decode cX5_state 70 = .ok (.getfield 19, 3) := by decide +kernel
theorem dX5_state_73 : decode cX5_state 73 = .ok (.invokevirtual 63, 3) := by decide +kernel
theorem dX5_state_76 : decode cX5_state 76 = .ok (.aload_n 0, 1) := by decide +kernel
theorem dX5_state_77 : decode cX5_state 77 = .ok (.getfield 10, 3) := by decide +kernel
theorem dX5_state_80 : decode cX5_state 80 = .ok (.getfield 59, 3) := by decide +kernel
theorem dX5_state_83 : decode cX5_state 83 = .ok (.ireturn, 1) := by decide +kernel
set_option maxRecDepth 20000 in
theorem ggX5_hang_X1_hasMedal : GoodIn wsX5_hang wsX1_hasMedal := goodIn_r _ [8, 9, 45, 46, 47, 48, 49, 50, 51, 52, 53, 54] (by decide +kernel) (by decide +kernel)
set_option maxRecDepth 20000 in
theorem gX5_hang_X1_hasMedal : GoodIn wsX5_hang (wsV RX5 104 RX1 yX1_hasMedal wsX1_hasMedal) := goodIn_app (goodIn_of _ (by decide +kernel)) ggX5_hang_X1_hasMedal
set_option maxRecDepth 20000 in
theorem ggX5_hang_X1_hasMan : GoodIn wsX5_hang wsX1_hasMan := goodIn_r _ [13, 14, 45, 46, 47, 48, 49, 50, 51, 52, 53, 54] (by decide +kernel) (by decide +kernel)
set_option maxRecDepth 20000 in
theorem gX5_hang_X1_hasMan : GoodIn wsX5_hang (wsV RX5 70 RX1 yX1_hasMan wsX1_hasMan) := goodIn_app (goodIn_of _ (by decide +kernel)) ggX5_hang_X1_hasMan
set_option maxRecDepth 20000 in
theorem ggX5_hang_X2_keep : GoodIn wsX5_hang wsX2_keep := goodIn_r _ [19, 20, 21, 22, 23, 24, 25, 26, 27, 28, 29, 30, 31, 32, 33, 34, 35, 55, 56, 57, 45, 46, 47, 48, 49, 50, 51, 52, 53, 54] (by decide +kernel) (by decide +kernel)
set_option maxRecDepth 20000 in
theorem gX5_hang_X2_keep : GoodIn wsX5_hang (wsV RX5 162 RX2 yX2_keep wsX2_keep) := goodIn_app (goodIn_of _ (by decide +kernel)) ggX5_hang_X2_keep
theorem dX5_hang_0 : decode cX5_hang 0 = .ok (.aload_n 0, 1) := by decide +kernel
theorem dX5_hang_1 : decode cX5_hang 1 = .ok (.getfield 10, 3) := by decide +kernel
theorem dX5_hang_4 : decode cX5_hang 4 = .ok (.iload_n 1, 1) := by decide +kernel
theorem dX5_hang_5 : decode cX5_hang 5 = .ok (.invokevirtual 104, 3) := by decide +kernel
theorem dX5_hang_8 : decode cX5_hang 8 = .ok (.ifCond .eq 20, 3) := by decide +kernel
theorem dX5_hang_11 : decode cX5_hang 11 = .ok (.iload_n 2, 1) := by decide +kernel
theorem dX5_hang_12 : decode cX5_hang 12 = .ok (.bipush (-4), 2) := by decide +kernel
theorem dX5_hang_14 : decode cX5_hang 14 = .ok (.if_icmp .eq 16, 3) := by decide +kernel
theorem dX5_hang_17 : decode cX5_hang 17 = .ok (.aload_n 0, 1) := by decide +kernel
theorem dX5_hang_18 : decode cX5_hang 18 = .ok (.getfield 10, 3) := by decide +kernel
theorem dX5_hang_21 : decode cX5_hang 21 = .ok (.iload_n 2, 1) := by decide +kernel
theorem dX5_hang_22 : decode cX5_hang 22 = .ok (.invokevirtual 70, 3) := by decide +kernel
theorem dX5_hang_25 : decode cX5_hang 25 = .ok (.ifCond .ne 5, 3) := by decide +kernel
theorem dX5_hang_28 : decode cX5_hang 28 = .ok (.iconst (-1), 1) := by decide +kernel
theorem dX5_hang_29 : decode cX5_hang 29 = .ok (.ireturn, 1) := by decide +kernel
theorem dX5_hang_30 : decode cX5_hang 30 = .ok (.aload_n 0, 1) := by decide +kernel
theorem dX5_hang_31 : decode cX5_hang 31 = .ok (.getfield 10, 3) := by decide +kernel
theorem dX5_hang_34 : decode cX5_hang 34 = .ok (.getfield 116, 3) := by decide +kernel
theorem dX5_hang_37 : decode cX5_hang 37 = .ok (.iload_n 1, 1) := by decide +kernel
theorem dX5_hang_38 : decode cX5_hang 38 = .ok (.iaload, 1) := by decide +kernel
theorem dX5_hang_39 : decode cX5_hang 39 = .ok (.istore_n 3, 1) := by decide +kernel
theorem dX5_hang_40 : decode cX5_hang 40 = .ok (.iload_n 3, 1) := by decide +kernel
theorem dX5_hang_41 : decode cX5_hang 41 = .ok (.iload_n 2, 1) := by decide +kernel
theorem dX5_hang_42 : decode cX5_hang 42 = .ok (.if_icmp .ne 6, 3) := by decide +kernel
theorem dX5_hang_45 : decode cX5_hang 45 = .ok (.bipush (-2), 2) := by decide +kernel
theorem dX5_hang_47 : decode cX5_hang 47 = .ok (.ireturn, 1) := by decide +kernel
theorem dX5_hang_48 : decode cX5_hang 48 = .ok (.aload_n 0, 1) := by decide +kernel
theorem dX5_hang_49 : decode cX5_hang 49 = .ok (.getfield 19, 3) := by decide +kernel
theorem dX5_hang_52 : decode cX5_hang 52 = .ok (.aload_n 0, 1) := by decide +kernel
theorem dX5_hang_53 : decode cX5_hang 53 = .ok (.getfield 10, 3) := by decide +kernel
theorem dX5_hang_56 : decode cX5_hang 56 = .ok (.invokevirtual 162, 3) := by decide +kernel
theorem dX5_hang_59 : decode cX5_hang 59 = .ok (.aload_n 0, 1) := by decide +kernel
theorem dX5_hang_60 : decode cX5_hang 60 = .ok (.getfield 10, 3) := by decide +kernel
theorem dX5_hang_63 : decode cX5_hang 63 = .ok (.getfield 116, 3) := by decide +kernel
theorem dX5_hang_66 : decode cX5_hang 66 = .ok (.iload_n 1, 1) := by decide +kernel
theorem dX5_hang_67 : decode cX5_hang 67 = .ok (.iload_n 2, 1) := by decide +kernel
theorem dX5_hang_68 : decode cX5_hang 68 = .ok (.iastore, 1) := by decide +kernel
theorem dX5_hang_69 : decode cX5_hang 69 = .ok (.iload_n 3, 1) := by decide +kernel
theorem dX5_hang_70 : decode cX5_hang 70 = .ok (.ireturn, 1) := by decide +kernel
set_option maxRecDepth 20000 in
theorem ggX5_polish_X1_hasMedal : GoodIn wsX5_polish wsX1_hasMedal := goodIn_r _ [12, 13, 41, 42, 43, 44, 45, 46, 47, 48, 49, 50] (by decide +kernel) (by decide +kernel)
set_option maxRecDepth 20000 in
theorem gX5_polish_X1_hasMedal : GoodIn wsX5_polish (wsV RX5 104 RX1 yX1_hasMedal wsX1_hasMedal) := goodIn_app (goodIn_of _ (by decide +kernel)) ggX5_polish_X1_hasMedal
set_option maxRecDepth 20000 in
theorem ggX5_polish_X2_keep : GoodIn wsX5_polish wsX2_keep := goodIn_r _ [18, 19, 20, 21, 22, 23, 24, 25, 26, 27, 28, 29, 30, 31, 5, 6, 7, 51, 52, 53, 41, 42, 43, 44, 45, 46, 47, 48, 49, 50] (by decide +kernel) (by decide +kernel)
set_option maxRecDepth 20000 in
theorem gX5_polish_X2_keep : GoodIn wsX5_polish (wsV RX5 162 RX2 yX2_keep wsX2_keep) := goodIn_app (goodIn_of _ (by decide +kernel)) ggX5_polish_X2_keep
theorem dX5_polish_0 : decode cX5_polish 0 = .ok (.aload_n 0, 1) := by decide +kernel
theorem dX5_polish_1 : decode cX5_polish 1 = .ok (.getfield 10, 3) := by decide +kernel
theorem dX5_polish_4 : decode cX5_polish 4 = .ok (.iload_n 1, 1) := by decide +kernel
theorem dX5_polish_5 : decode cX5_polish 5 = .ok (.invokevirtual 104, 3) := by decide +kernel
theorem dX5_polish_8 : decode cX5_polish 8 = .ok (.ifCond .eq 14, 3) := by decide +kernel
theorem dX5_polish_11 : decode cX5_polish 11 = .ok (.iload_n 2, 1) := by decide +kernel
theorem dX5_polish_12 : decode cX5_polish 12 = .ok (.iconst 1, 1) := by decide +kernel
theorem dX5_polish_13 : decode cX5_polish 13 = .ok (.if_icmp .lt 9, 3) := by decide +kernel
theorem dX5_polish_16 : decode cX5_polish 16 = .ok (.iload_n 2, 1) := by decide +kernel
theorem dX5_polish_17 : decode cX5_polish 17 = .ok (.bipush 20, 2) := by decide +kernel
theorem dX5_polish_19 : decode cX5_polish 19 = .ok (.if_icmp .le 5, 3) := by decide +kernel
theorem dX5_polish_22 : decode cX5_polish 22 = .ok (.iconst (-1), 1) := by decide +kernel
theorem dX5_polish_23 : decode cX5_polish 23 = .ok (.ireturn, 1) := by decide +kernel
theorem dX5_polish_24 : decode cX5_polish 24 = .ok (.aload_n 0, 1) := by decide +kernel
theorem dX5_polish_25 : decode cX5_polish 25 = .ok (.getfield 10, 3) := by decide +kernel
theorem dX5_polish_28 : decode cX5_polish 28 = .ok (.getfield 110, 3) := by decide +kernel
theorem dX5_polish_31 : decode cX5_polish 31 = .ok (.iload_n 1, 1) := by decide +kernel
theorem dX5_polish_32 : decode cX5_polish 32 = .ok (.iaload, 1) := by decide +kernel
theorem dX5_polish_33 : decode cX5_polish 33 = .ok (.bipush 20, 2) := by decide +kernel
theorem dX5_polish_35 : decode cX5_polish 35 = .ok (.if_icmp .lt 6, 3) := by decide +kernel
theorem dX5_polish_38 : decode cX5_polish 38 = .ok (.bipush (-2), 2) := by decide +kernel
theorem dX5_polish_40 : decode cX5_polish 40 = .ok (.ireturn, 1) := by decide +kernel
theorem dX5_polish_41 : decode cX5_polish 41 = .ok (.aload_n 0, 1) := by decide +kernel
theorem dX5_polish_42 : decode cX5_polish 42 = .ok (.getfield 19, 3) := by decide +kernel
theorem dX5_polish_45 : decode cX5_polish 45 = .ok (.aload_n 0, 1) := by decide +kernel
theorem dX5_polish_46 : decode cX5_polish 46 = .ok (.getfield 10, 3) := by decide +kernel
theorem dX5_polish_49 : decode cX5_polish 49 = .ok (.invokevirtual 162, 3) := by decide +kernel
theorem dX5_polish_52 : decode cX5_polish 52 = .ok (.aload_n 0, 1) := by decide +kernel
theorem dX5_polish_53 : decode cX5_polish 53 = .ok (.getfield 10, 3) := by decide +kernel
theorem dX5_polish_56 : decode cX5_polish 56 = .ok (.getfield 110, 3) := by decide +kernel
theorem dX5_polish_59 : decode cX5_polish 59 = .ok (.iload_n 1, 1) := by decide +kernel
theorem dX5_polish_60 : decode cX5_polish 60 = .ok (.bipush 20, 2) := by decide +kernel
theorem dX5_polish_62 : decode cX5_polish 62 = .ok (.aload_n 0, 1) := by decide +kernel
theorem dX5_polish_63 : decode cX5_polish 63 = .ok (.getfield 10, 3) := by decide +kernel
theorem dX5_polish_66 : decode cX5_polish 66 = .ok (.getfield 110, 3) := by decide +kernel
theorem dX5_polish_69 : decode cX5_polish 69 = .ok (.iload_n 1, 1) := by decide +kernel
theorem dX5_polish_70 : decode cX5_polish 70 = .ok (.iaload, 1) := by decide +kernel
theorem dX5_polish_71 : decode cX5_polish 71 = .ok (.iload_n 2, 1) := by decide +kernel
theorem dX5_polish_72 : decode cX5_polish 72 = .ok (.iadd, 1) := by decide +kernel
theorem dX5_polish_73 : decode cX5_polish 73 = .ok (.invokestatic 165, 3) := by decide +kernel
theorem dX5_polish_76 : decode cX5_polish 76 = .ok (.iastore, 1) := by decide +kernel
theorem dX5_polish_77 : decode cX5_polish 77 = .ok (.aload_n 0, 1) := by decide +kernel
theorem dX5_polish_78 : decode cX5_polish 78 = .ok (.getfield 10, 3) := by decide +kernel
theorem dX5_polish_81 : decode cX5_polish 81 = .ok (.getfield 110, 3) := by decide +kernel
theorem dX5_polish_84 : decode cX5_polish 84 = .ok (.iload_n 1, 1) := by decide +kernel
theorem dX5_polish_85 : decode cX5_polish 85 = .ok (.iaload, 1) := by decide +kernel
theorem dX5_polish_86 : decode cX5_polish 86 = .ok (.ireturn, 1) := by decide +kernel
set_option maxRecDepth 20000 in
theorem ggX5_undo_X2_giveBack : GoodIn wsX5_undo wsX2_giveBack := goodIn_r _ [8, 9, 10, 11, 12, 13, 14, 15, 16, 17, 18, 19, 20, 30, 31, 32, 33, 34, 35, 36, 37, 38, 39, 40, 41, 42] (by decide +kernel) (by decide +kernel)
set_option maxRecDepth 20000 in
theorem gX5_undo_X2_giveBack : GoodIn wsX5_undo (wsV RX5 170 RX2 yX2_giveBack wsX2_giveBack) := goodIn_app (goodIn_of _ (by decide +kernel)) ggX5_undo_X2_giveBack
theorem dX5_undo_0 : decode cX5_undo 0 = .ok (.aload_n 0, 1) := by decide +kernel
theorem dX5_undo_1 : decode cX5_undo 1 = .ok (.getfield 19, 3) := by decide +kernel
theorem dX5_undo_4 : decode cX5_undo 4 = .ok (.aload_n 0, 1) := by decide +kernel
theorem dX5_undo_5 : decode cX5_undo 5 = .ok (.getfield 10, 3) := by decide +kernel
theorem dX5_undo_8 : decode cX5_undo 8 = .ok (.invokevirtual 170, 3) := by decide +kernel
theorem dX5_undo_11 : decode cX5_undo 11 = .ok (.ifCond .eq 13, 3) := by decide +kernel
theorem dX5_undo_14 : decode cX5_undo 14 = .ok (.aload_n 0, 1) := by decide +kernel
theorem dX5_undo_15 : decode cX5_undo 15 = .ok (.getfield 19, 3) := by decide +kernel
theorem dX5_undo_18 : decode cX5_undo 18 = .ok (.getfield 155, 3) := by decide +kernel
theorem dX5_undo_21 : decode cX5_undo 21 = .ok (.goto 5, 3) := by decide +kernel
theorem dX5_undo_24 : decode cX5_undo 24 = .ok (.bipush (-4), 2) := by decide +kernel
theorem dX5_undo_26 : decode cX5_undo 26 = .ok (.ireturn, 1) := by decide +kernel
theorem dX5_seed_0 : decode cX5_seed 0 = .ok (.iload_n 1, 1) := by decide +kernel
theorem dX5_seed_1 : decode cX5_seed 1 = .ok (.ifCond .ge 5, 3) := by decide +kernel
theorem dX5_seed_4 : decode cX5_seed 4 = .ok (.iconst (-1), 1) := by decide +kernel
theorem dX5_seed_5 : decode cX5_seed 5 = .ok (.ireturn, 1) := by decide +kernel
theorem dX5_seed_6 : decode cX5_seed 6 = .ok (.aload_n 0, 1) := by decide +kernel
theorem dX5_seed_7 : decode cX5_seed 7 = .ok (.getfield 10, 3) := by decide +kernel
theorem dX5_seed_10 : decode cX5_seed 10 = .ok (.getfield 132, 3) := by decide +kernel
theorem dX5_seed_13 : decode cX5_seed 13 = .ok (.istore_n 2, 1) := by decide +kernel
theorem dX5_seed_14 : decode cX5_seed 14 = .ok (.aload_n 0, 1) := by decide +kernel
theorem dX5_seed_15 : decode cX5_seed 15 = .ok (.getfield 10, 3) := by decide +kernel
theorem dX5_seed_18 : decode cX5_seed 18 = .ok (.iload_n 1, 1) := by decide +kernel
theorem dX5_seed_19 : decode cX5_seed 19 = .ok (.putfield 132, 3) := by decide +kernel
theorem dX5_seed_22 : decode cX5_seed 22 = .ok (.iload_n 2, 1) := by decide +kernel
theorem dX5_seed_23 : decode cX5_seed 23 = .ok (.ireturn, 1) := by decide +kernel
set_option maxRecDepth 20000 in
theorem ggX5_then_X1_bentBehind : GoodIn wsX5_then wsX1_bentBehind := goodIn_r _ [6, 7, 8, 9, 10, 11, 5, 12, 13, 14, 15, 16, 17, 18, 19, 20, 21, 22, 23, 24, 25, 26, 27, 28, 29, 30, 31, 32, 33, 34, 35, 36, 37, 38, 39, 40, 41, 42, 43, 44, 45, 46, 47, 48, 49, 50, 51, 52, 53, 54, 55, 56, 57, 58, 59, 60, 70, 71, 72, 73, 74, 75, 76, 77, 78, 79] (by decide +kernel) (by decide +kernel)
set_option maxRecDepth 20000 in
theorem gX5_then_X1_bentBehind : GoodIn wsX5_then (wsV RX5 176 RX1 yX1_bentBehind wsX1_bentBehind) := goodIn_app (goodIn_of _ (by decide +kernel)) ggX5_then_X1_bentBehind
theorem dX5_then_0 : decode cX5_then 0 = .ok (.iload_n 1, 1) := by decide +kernel
theorem dX5_then_1 : decode cX5_then 1 = .ok (.ifCond .lt 9, 3) := by decide +kernel
theorem dX5_then_4 : decode cX5_then 4 = .ok (.iload_n 1, 1) := by decide +kernel
theorem dX5_then_5 : decode cX5_then 5 = .ok (.bipush 60, 2) := by decide +kernel
theorem dX5_then_7 : decode cX5_then 7 = .ok (.if_icmp .le 5, 3) := by decide +kernel
theorem dX5_then_10 : decode cX5_then 10 = .ok (.iconst (-1), 1) := by decide +kernel
theorem dX5_then_11 : decode cX5_then 11 = .ok (.ireturn, 1) := by decide +kernel
theorem dX5_then_12 : decode cX5_then 12 = .ok (.aload_n 0, 1) := by decide +kernel
theorem dX5_then_13 : decode cX5_then 13 = .ok (.getfield 10, 3) := by decide +kernel
theorem dX5_then_16 : decode cX5_then 16 = .ok (.iload_n 1, 1) := by decide +kernel
theorem dX5_then_17 : decode cX5_then 17 = .ok (.invokevirtual 176, 3) := by decide +kernel
theorem dX5_then_20 : decode cX5_then 20 = .ok (.ireturn, 1) := by decide +kernel
set_option maxRecDepth 20000 in
theorem ggX5_off_X1_take : GoodIn wsX5_off wsX1_take := goodIn_r _ [9, 10, 11, 12, 13, 14, 15, 16, 17, 18, 19, 20, 21, 22, 23, 83, 84, 85, 86, 87, 88, 89, 90, 91, 92] (by decide +kernel) (by decide +kernel)
set_option maxRecDepth 20000 in
theorem gX5_off_X1_take : GoodIn wsX5_off (wsV RX5 142 RX1 yX1_take wsX1_take) := goodIn_app (goodIn_of _ (by decide +kernel)) ggX5_off_X1_take
set_option maxRecDepth 20000 in
theorem ggX5_off_X1_bentBehind : GoodIn wsX5_off wsX1_bentBehind := goodIn_r _ [27, 10, 22, 28, 29, 30, 8, 31, 32, 33, 34, 35, 21, 36, 37, 38, 39, 17, 40, 41, 42, 43, 44, 45, 46, 47, 48, 49, 50, 51, 52, 53, 54, 19, 18, 20, 55, 56, 57, 58, 16, 59, 60, 61, 62, 11, 63, 64, 65, 66, 67, 68, 69, 70, 71, 72, 83, 84, 85, 86, 87, 88, 89, 90, 91, 92] (by decide +kernel) (by decide +kernel)
set_option maxRecDepth 20000 in
theorem gX5_off_X1_bentBehind : GoodIn wsX5_off (wsV RX5 176 RX1 yX1_bentBehind wsX1_bentBehind) := goodIn_app (goodIn_of _ (by decide +kernel)) ggX5_off_X1_bentBehind
set_option maxRecDepth 20000 in
theorem ggX5_off_J6_bitCount_0f7a4 : GoodIn wsX5_off wsJ6_bitCount_0f7a4 := goodIn_r _ [47, 48, 49, 50] (by decide +kernel) (by decide +kernel)
set_option maxRecDepth 20000 in
theorem gX5_off_J6_bitCount_0f7a4 : GoodIn wsX5_off (va_wsS RX5 199 yJ6_bitCount_0f7a4 wsJ6_bitCount_0f7a4) := goodIn_app (goodIn_of _ (by decide +kernel)) ggX5_off_J6_bitCount_0f7a4
theorem dX5_off_0 : decode cX5_off 0 = .ok (.iload_n 1, 1) := by decide +kernel
theorem dX5_off_1 : decode cX5_off 1 = .ok (.iconst 1, 1) := by decide +kernel
theorem dX5_off_2 : decode cX5_off 2 = .ok (.if_icmp .lt 18, 3) := by decide +kernel
theorem dX5_off_5 : decode cX5_off 5 = .ok (.iload_n 1, 1) := by decide +kernel
theorem dX5_off_6 : decode cX5_off 6 = .ok (.bipush 40, 2) := by decide +kernel
theorem dX5_off_8 : decode cX5_off 8 = .ok (.if_icmp .gt 12, 3) := by decide +kernel
theorem dX5_off_11 : decode cX5_off 11 = .ok (.iload_n 2, 1) := by decide +kernel
theorem dX5_off_12 : decode cX5_off 12 = .ok (.ifCond .lt 8, 3) := by decide +kernel
theorem dX5_off_15 : decode cX5_off 15 = .ok (.iload_n 2, 1) := by decide +kernel
theorem dX5_off_16 : decode cX5_off 16 = .ok (.iconst 1, 1) := by decide +kernel
theorem dX5_off_17 : decode cX5_off 17 = .ok (.if_icmp .le 5, 3) := by decide +kernel
theorem dX5_off_20 : decode cX5_off 20 = .ok (.iconst (-1), 1) := by decide +kernel
theorem dX5_off_21 : decode cX5_off 21 = .ok (.ireturn, 1) := by decide +kernel
theorem dX5_off_22 : decode cX5_off 22 = .ok (.bipush (-4), 2) := by decide +kernel
theorem dX5_off_24 : decode cX5_off 24 = .ok (.istore_n 3, 1) := by decide +kernel
theorem dX5_off_25 : decode cX5_off 25 = .ok (.bipush (-4), 2) := by decide +kernel
theorem dX5_off_27 : decode cX5_off 27 = .ok (.istore 4, 2) := by decide +kernel
theorem dX5_off_29 : decode cX5_off 29 = .ok (.aload_n 0, 1) := by decide +kernel
theorem dX5_off_30 : decode cX5_off 30 = .ok (.getfield 33, 3) := by decide +kernel
theorem dX5_off_33 : decode cX5_off 33 = .ok (.aload_n 0, 1) := by decide +kernel
theorem dX5_off_34 : decode cX5_off 34 = .ok (.getfield 10, 3) := by decide +kernel
theorem dX5_off_37 : decode cX5_off 37 = .ok (.invokevirtual 142, 3) := by decide +kernel
theorem dX5_off_40 : decode cX5_off 40 = .ok (.iconst 0, 1) := by decide +kernel
theorem dX5_off_41 : decode cX5_off 41 = .ok (.istore 5, 2) := by decide +kernel
theorem dX5_off_43 : decode cX5_off 43 = .ok (.iload 5, 2) := by decide +kernel
theorem dX5_off_45 : decode cX5_off 45 = .ok (.aload_n 0, 1) := by decide +kernel
theorem dX5_off_46 : decode cX5_off 46 = .ok (.getfield 10, 3) := by decide +kernel
theorem dX5_off_49 : decode cX5_off 49 = .ok (.getfield 74, 3) := by decide +kernel
theorem dX5_off_52 : decode cX5_off 52 = .ok (.if_icmp .ge 89, 3) := by decide +kernel
theorem dX5_off_55 : decode cX5_off 55 = .ok (.aload_n 0, 1) := by decide +kernel
theorem dX5_off_56 : decode cX5_off 56 = .ok (.getfield 10, 3) := by decide +kernel
theorem dX5_off_59 : decode cX5_off 59 = .ok (.getfield 116, 3) := by decide +kernel
theorem dX5_off_62 : decode cX5_off 62 = .ok (.iload 5, 2) := by decide +kernel
theorem dX5_off_64 : decode cX5_off 64 = .ok (.iaload, 1) := by decide +kernel
theorem dX5_off_65 : decode cX5_off 65 = .ok (.bipush (-4), 2) := by decide +kernel
theorem dX5_off_67 : decode cX5_off 67 = .ok (.if_icmp .eq 68, 3) := by decide +kernel
theorem dX5_off_70 : decode cX5_off 70 = .ok (.aload_n 0, 1) := by decide +kernel
theorem dX5_off_71 : decode cX5_off 71 = .ok (.getfield 33, 3) := by decide +kernel
theorem dX5_off_74 : decode cX5_off 74 = .ok (.getfield 116, 3) := by decide +kernel
theorem dX5_off_77 : decode cX5_off 77 = .ok (.iload 5, 2) := by decide +kernel
theorem dX5_off_79 : decode cX5_off 79 = .ok (.bipush (-4), 2) := by decide +kernel
theorem dX5_off_81 : decode cX5_off 81 = .ok (.iastore, 1) := by decide +kernel
theorem dX5_off_82 : decode cX5_off 82 = .ok (.aload_n 0, 1) := by decide +kernel
theorem dX5_off_83 : decode cX5_off 83 = .ok (.getfield 33, 3) := by decide +kernel
theorem dX5_off_86 : decode cX5_off 86 = .ok (.iload_n 1, 1) := by decide +kernel
theorem dX5_off_87 : decode cX5_off 87 = .ok (.invokevirtual 176, 3) := by decide +kernel
theorem dX5_off_90 : decode cX5_off 90 = .ok (.invokestatic 199, 3) := by decide +kernel
theorem dX5_off_93 : decode cX5_off 93 = .ok (.istore 6, 2) := by decide +kernel
theorem dX5_off_95 : decode cX5_off 95 = .ok (.aload_n 0, 1) := by decide +kernel
theorem dX5_off_96 : decode cX5_off 96 = .ok (.getfield 33, 3) := by decide +kernel
theorem dX5_off_99 : decode cX5_off 99 = .ok (.getfield 116, 3) := by decide +kernel
theorem dX5_off_102 : decode cX5_off 102 = .ok (.iload 5, 2) := by decide +kernel
theorem dX5_off_104 : decode cX5_off 104 = .ok (.aload_n 0, 1) := by decide +kernel
theorem dX5_off_105 : decode cX5_off 105 = .ok (.getfield 10, 3) := by decide +kernel
theorem dX5_off_108 : decode cX5_off 108 = .ok (.getfield 116, 3) := by decide +kernel
theorem dX5_off_111 : decode cX5_off 111 = .ok (.iload 5, 2) := by decide +kernel
theorem dX5_off_113 : decode cX5_off 113 = .ok (.iaload, 1) := by decide +kernel
theorem dX5_off_114 : decode cX5_off 114 = .ok (.iastore, 1) := by decide +kernel
theorem dX5_off_115 : decode cX5_off 115 = .ok (.iload_n 3, 1) := by decide +kernel
theorem dX5_off_116 : decode cX5_off 116 = .ok (.bipush (-4), 2) := by decide +kernel
theorem dX5_off_118 : decode cX5_off 118 = .ok (.if_icmp .eq 10, 3) := by decide +kernel
theorem dX5_off_121 : decode cX5_off 121 = .ok (.iload 6, 2) := by decide +kernel
theorem dX5_off_123 : decode cX5_off 123 = .ok (.iload 4, 2) := by decide +kernel
theorem dX5_off_125 : decode cX5_off 125 = .ok (.if_icmp .ge 10, 3) := by decide +kernel
theorem dX5_off_128 : decode cX5_off 128 = .ok (.iload 5, 2) := by decide +kernel
theorem dX5_off_130 : decode cX5_off 130 = .ok (.istore_n 3, 1) := by decide +kernel
theorem dX5_off_131 : decode cX5_off 131 = .ok (.iload 6, 2) := by decide +kernel
theorem dX5_off_133 : decode cX5_off 133 = .ok (.istore 4, 2) := by decide +kernel
theorem dX5_off_135 : decode cX5_off 135 = .ok (.iinc 5 1, 3) := by decide +kernel
theorem dX5_off_138 : decode cX5_off 138 = .ok (.goto (-95), 3) := by decide +kernel
theorem dX5_off_141 : decode cX5_off 141 = .ok (.iload_n 2, 1) := by decide +kernel
theorem dX5_off_142 : decode cX5_off 142 = .ok (.ifCond .ne 7, 3) := by decide +kernel
theorem dX5_off_145 : decode cX5_off 145 = .ok (.iload_n 3, 1) := by decide +kernel
theorem dX5_off_146 : decode cX5_off 146 = .ok (.goto 5, 3) := by decide +kernel
theorem dX5_off_149 : decode cX5_off 149 = .ok (.iload 4, 2) := by decide +kernel
theorem dX5_off_151 : decode cX5_off 151 = .ok (.ireturn, 1) := by decide +kernel
set_option maxRecDepth 20000 in
theorem ggX5_needs_X1_hasMan : GoodIn wsX5_needs wsX1_hasMan := goodIn_r _ [12, 13, 65, 66, 67, 68, 69, 70, 71, 72, 73, 74] (by decide +kernel) (by decide +kernel)
set_option maxRecDepth 20000 in
theorem gX5_needs_X1_hasMan : GoodIn wsX5_needs (wsV RX5 70 RX1 yX1_hasMan wsX1_hasMan) := goodIn_app (goodIn_of _ (by decide +kernel)) ggX5_needs_X1_hasMan
set_option maxRecDepth 20000 in
theorem ggX5_needs_X1_loadOn : GoodIn wsX5_needs wsX1_loadOn := goodIn_r _ [17, 18, 19, 20, 11, 21, 22, 23, 24, 25, 26, 27, 28, 29, 30, 31, 32, 33, 34, 35, 36, 37, 38, 39, 40, 41, 42, 43, 44, 45, 65, 66, 67, 68, 69, 70, 71, 72, 73, 74] (by decide +kernel) (by decide +kernel)
set_option maxRecDepth 20000 in
theorem gX5_needs_X1_loadOn : GoodIn wsX5_needs (wsV RX5 91 RX1 yX1_loadOn wsX1_loadOn) := goodIn_app (goodIn_of _ (by decide +kernel)) ggX5_needs_X1_loadOn
set_option maxRecDepth 20000 in
theorem ggX5_needs_X5_staysUpright : GoodIn wsX5_needs wsX5_staysUpright := goodIn_r _ [49, 50, 51, 48, 52, 4, 5, 6, 7, 53, 54, 55] (by decide +kernel) (by decide +kernel)
set_option maxRecDepth 20000 in
theorem gX5_needs_X5_staysUpright : GoodIn wsX5_needs (va_wsS RX5 207 yX5_staysUpright wsX5_staysUpright) := goodIn_app (goodIn_of _ (by decide +kernel)) ggX5_needs_X5_staysUpright
theorem dX5_needs_0 : decode cX5_needs 0 = .ok (.aload_n 0, 1) := by decide +kernel
theorem dX5_needs_1 : decode cX5_needs 1 = .ok (.getfield 10, 3) := by decide +kernel
theorem dX5_needs_4 : decode cX5_needs 4 = .ok (.iload_n 1, 1) := by decide +kernel
theorem dX5_needs_5 : decode cX5_needs 5 = .ok (.invokevirtual 70, 3) := by decide +kernel
theorem dX5_needs_8 : decode cX5_needs 8 = .ok (.ifCond .eq 14, 3) := by decide +kernel
theorem dX5_needs_11 : decode cX5_needs 11 = .ok (.iload_n 2, 1) := by decide +kernel
theorem dX5_needs_12 : decode cX5_needs 12 = .ok (.iconst 1, 1) := by decide +kernel
theorem dX5_needs_13 : decode cX5_needs 13 = .ok (.if_icmp .lt 9, 3) := by decide +kernel
theorem dX5_needs_16 : decode cX5_needs 16 = .ok (.iload_n 2, 1) := by decide +kernel
theorem dX5_needs_17 : decode cX5_needs 17 = .ok (.bipush 40, 2) := by decide +kernel
theorem dX5_needs_19 : decode cX5_needs 19 = .ok (.if_icmp .le 5, 3) := by decide +kernel
theorem dX5_needs_22 : decode cX5_needs 22 = .ok (.iconst (-1), 1) := by decide +kernel
theorem dX5_needs_23 : decode cX5_needs 23 = .ok (.ireturn, 1) := by decide +kernel
theorem dX5_needs_24 : decode cX5_needs 24 = .ok (.aload_n 0, 1) := by decide +kernel
theorem dX5_needs_25 : decode cX5_needs 25 = .ok (.getfield 10, 3) := by decide +kernel
theorem dX5_needs_28 : decode cX5_needs 28 = .ok (.iload_n 1, 1) := by decide +kernel
theorem dX5_needs_29 : decode cX5_needs 29 = .ok (.aload_n 0, 1) := by decide +kernel
theorem dX5_needs_30 : decode cX5_needs 30 = .ok (.getfield 10, 3) := by decide +kernel
theorem dX5_needs_33 : decode cX5_needs 33 = .ok (.getfield 88, 3) := by decide +kernel
theorem dX5_needs_36 : decode cX5_needs 36 = .ok (.invokevirtual 91, 3) := by decide +kernel
theorem dX5_needs_39 : decode cX5_needs 39 = .ok (.istore_n 3, 1) := by decide +kernel
theorem dX5_needs_40 : decode cX5_needs 40 = .ok (.aload_n 0, 1) := by decide +kernel
theorem dX5_needs_41 : decode cX5_needs 41 = .ok (.getfield 10, 3) := by decide +kernel
theorem dX5_needs_44 : decode cX5_needs 44 = .ok (.iload_n 1, 1) := by decide +kernel
theorem dX5_needs_45 : decode cX5_needs 45 = .ok (.aload_n 0, 1) := by decide +kernel
theorem dX5_needs_46 : decode cX5_needs 46 = .ok (.getfield 10, 3) := by decide +kernel
theorem dX5_needs_49 : decode cX5_needs 49 = .ok (.getfield 88, 3) := by decide +kernel
theorem dX5_needs_52 : decode cX5_needs 52 = .ok (.iconst 1, 1) := by decide +kernel
theorem dX5_needs_53 : decode cX5_needs 53 = .ok (.iadd, 1) := by decide +kernel
theorem dX5_needs_54 : decode cX5_needs 54 = .ok (.invokevirtual 91, 3) := by decide +kernel
theorem dX5_needs_57 : decode cX5_needs 57 = .ok (.istore 4, 2) := by decide +kernel
theorem dX5_needs_59 : decode cX5_needs 59 = .ok (.iconst 0, 1) := by decide +kernel
theorem dX5_needs_60 : decode cX5_needs 60 = .ok (.istore 5, 2) := by decide +kernel
theorem dX5_needs_62 : decode cX5_needs 62 = .ok (.iload 5, 2) := by decide +kernel
theorem dX5_needs_64 : decode cX5_needs 64 = .ok (.sipush 200, 3) := by decide +kernel
theorem dX5_needs_67 : decode cX5_needs 67 = .ok (.if_icmp .gt 38, 3) := by decide +kernel
theorem dX5_needs_70 : decode cX5_needs 70 = .ok (.iload 5, 2) := by decide +kernel
theorem dX5_needs_72 : decode cX5_needs 72 = .ok (.aload_n 0, 1) := by decide +kernel
theorem dX5_needs_73 : decode cX5_needs 73 = .ok (.getfield 10, 3) := by decide +kernel
theorem dX5_needs_76 : decode cX5_needs 76 = .ok (.getfield 81, 3) := by decide +kernel
theorem dX5_needs_79 : decode cX5_needs 79 = .ok (.iload_n 1, 1) := by decide +kernel
theorem dX5_needs_80 : decode cX5_needs 80 = .ok (.iaload, 1) := by decide +kernel
theorem dX5_needs_81 : decode cX5_needs 81 = .ok (.iload 5, 2) := by decide +kernel
theorem dX5_needs_83 : decode cX5_needs 83 = .ok (.invokestatic 204, 3) := by decide +kernel
theorem dX5_needs_86 : decode cX5_needs 86 = .ok (.iload_n 3, 1) := by decide +kernel
theorem dX5_needs_87 : decode cX5_needs 87 = .ok (.iload 4, 2) := by decide +kernel
theorem dX5_needs_89 : decode cX5_needs 89 = .ok (.iload_n 2, 1) := by decide +kernel
theorem dX5_needs_90 : decode cX5_needs 90 = .ok (.invokestatic 207, 3) := by decide +kernel
theorem dX5_needs_93 : decode cX5_needs 93 = .ok (.ifCond .eq 6, 3) := by decide +kernel
theorem dX5_needs_96 : decode cX5_needs 96 = .ok (.iload 5, 2) := by decide +kernel
theorem dX5_needs_98 : decode cX5_needs 98 = .ok (.ireturn, 1) := by decide +kernel
theorem dX5_needs_99 : decode cX5_needs 99 = .ok (.iinc 5 1, 3) := by decide +kernel
theorem dX5_needs_102 : decode cX5_needs 102 = .ok (.goto (-40), 3) := by decide +kernel
theorem dX5_needs_105 : decode cX5_needs 105 = .ok (.bipush (-4), 2) := by decide +kernel
theorem dX5_needs_107 : decode cX5_needs 107 = .ok (.ireturn, 1) := by decide +kernel
set_option maxRecDepth 20000 in
theorem ggX5_two_X1_wornByTwo : GoodIn wsX5_two wsX1_wornByTwo := goodIn_r _ [7, 8, 50, 51, 52, 53, 54, 55, 56, 57, 58, 59] (by decide +kernel) (by decide +kernel)
set_option maxRecDepth 20000 in
theorem gX5_two_X1_wornByTwo : GoodIn wsX5_two (wsV RX5 211 RX1 yX1_wornByTwo wsX1_wornByTwo) := goodIn_app (goodIn_of _ (by decide +kernel)) ggX5_two_X1_wornByTwo
set_option maxRecDepth 20000 in
theorem ggX5_two_X1_loadsIfChanged : GoodIn wsX5_two wsX1_loadsIfChanged := goodIn_r _ [12, 8, 13, 14, 15, 16, 6, 17, 18, 19, 20, 21, 22, 23, 24, 25, 26, 27, 28, 29, 30, 31, 32, 33, 34, 35, 36, 37, 38, 39, 40, 50, 51, 52, 53, 54, 55, 56, 57, 58, 59] (by decide +kernel) (by decide +kernel)
set_option maxRecDepth 20000 in
theorem gX5_two_X1_loadsIfChanged : GoodIn wsX5_two (wsV RX5 214 RX1 yX1_loadsIfChanged wsX1_loadsIfChanged) := goodIn_app (goodIn_of _ (by decide +kernel)) ggX5_two_X1_loadsIfChanged
theorem dX5_two_0 : decode cX5_two 0 = .ok (.iload_n 1, 1) := by decide +kernel
theorem dX5_two_1 : decode cX5_two 1 = .ok (.ifCond .lt 8, 3) := by decide +kernel
theorem dX5_two_4 : decode cX5_two 4 = .ok (.iload_n 1, 1) := by decide +kernel
theorem dX5_two_5 : decode cX5_two 5 = .ok (.iconst 1, 1) := by decide +kernel
theorem dX5_two_6 : decode cX5_two 6 = .ok (.if_icmp .le 5, 3) := by decide +kernel
theorem dX5_two_9 : decode cX5_two 9 = .ok (.iconst (-1), 1) := by decide +kernel
theorem dX5_two_10 : decode cX5_two 10 = .ok (.ireturn, 1) := by decide +kernel
theorem dX5_two_11 : decode cX5_two 11 = .ok (.bipush (-4), 2) := by decide +kernel
theorem dX5_two_13 : decode cX5_two 13 = .ok (.istore_n 2, 1) := by decide +kernel
theorem dX5_two_14 : decode cX5_two 14 = .ok (.bipush (-4), 2) := by decide +kernel
theorem dX5_two_16 : decode cX5_two 16 = .ok (.istore_n 3, 1) := by decide +kernel
theorem dX5_two_17 : decode cX5_two 17 = .ok (.iconst 0, 1) := by decide +kernel
theorem dX5_two_18 : decode cX5_two 18 = .ok (.istore 4, 2) := by decide +kernel
theorem dX5_two_20 : decode cX5_two 20 = .ok (.iload 4, 2) := by decide +kernel
theorem dX5_two_22 : decode cX5_two 22 = .ok (.aload_n 0, 1) := by decide +kernel
theorem dX5_two_23 : decode cX5_two 23 = .ok (.getfield 10, 3) := by decide +kernel
theorem dX5_two_26 : decode cX5_two 26 = .ok (.getfield 74, 3) := by decide +kernel
theorem dX5_two_29 : decode cX5_two 29 = .ok (.if_icmp .ge 84, 3) := by decide +kernel
theorem dX5_two_32 : decode cX5_two 32 = .ok (.iload 4, 2) := by decide +kernel
theorem dX5_two_34 : decode cX5_two 34 = .ok (.iconst 1, 1) := by decide +kernel
theorem dX5_two_35 : decode cX5_two 35 = .ok (.iadd, 1) := by decide +kernel
theorem dX5_two_36 : decode cX5_two 36 = .ok (.istore 5, 2) := by decide +kernel
theorem dX5_two_38 : decode cX5_two 38 = .ok (.iload 5, 2) := by decide +kernel
theorem dX5_two_40 : decode cX5_two 40 = .ok (.aload_n 0, 1) := by decide +kernel
theorem dX5_two_41 : decode cX5_two 41 = .ok (.getfield 10, 3) := by decide +kernel
theorem dX5_two_44 : decode cX5_two 44 = .ok (.getfield 74, 3) := by decide +kernel
theorem dX5_two_47 : decode cX5_two 47 = .ok (.if_icmp .ge 60, 3) := by decide +kernel
theorem dX5_two_50 : decode cX5_two 50 = .ok (.aload_n 0, 1) := by decide +kernel
theorem dX5_two_51 : decode cX5_two 51 = .ok (.getfield 10, 3) := by decide +kernel
theorem dX5_two_54 : decode cX5_two 54 = .ok (.iload 4, 2) := by decide +kernel
theorem dX5_two_56 : decode cX5_two 56 = .ok (.iload 5, 2) := by decide +kernel
theorem dX5_two_58 : decode cX5_two 58 = .ok (.invokevirtual 211, 3) := by decide +kernel
theorem dX5_two_61 : decode cX5_two 61 = .ok (.ifCond .eq 40, 3) := by decide +kernel
theorem dX5_two_64 : decode cX5_two 64 = .ok (.aload_n 0, 1) := by decide +kernel
theorem dX5_two_65 : decode cX5_two 65 = .ok (.getfield 10, 3) := by decide +kernel
theorem dX5_two_68 : decode cX5_two 68 = .ok (.iload 4, 2) := by decide +kernel
theorem dX5_two_70 : decode cX5_two 70 = .ok (.iload 5, 2) := by decide +kernel
theorem dX5_two_72 : decode cX5_two 72 = .ok (.invokevirtual 214, 3) := by decide +kernel
theorem dX5_two_75 : decode cX5_two 75 = .ok (.istore 6, 2) := by decide +kernel
theorem dX5_two_77 : decode cX5_two 77 = .ok (.iload_n 2, 1) := by decide +kernel
theorem dX5_two_78 : decode cX5_two 78 = .ok (.bipush (-4), 2) := by decide +kernel
theorem dX5_two_80 : decode cX5_two 80 = .ok (.if_icmp .eq 9, 3) := by decide +kernel
theorem dX5_two_83 : decode cX5_two 83 = .ok (.iload 6, 2) := by decide +kernel
theorem dX5_two_85 : decode cX5_two 85 = .ok (.iload_n 3, 1) := by decide +kernel
theorem dX5_two_86 : decode cX5_two 86 = .ok (.if_icmp .ge 15, 3) := by decide +kernel
theorem dX5_two_89 : decode cX5_two 89 = .ok (.bipush 10, 2) := by decide +kernel
theorem dX5_two_91 : decode cX5_two 91 = .ok (.iload 4, 2) := by decide +kernel
theorem dX5_two_93 : decode cX5_two 93 = .ok (.imul, 1) := by decide +kernel
theorem dX5_two_94 : decode cX5_two 94 = .ok (.iload 5, 2) := by decide +kernel
theorem dX5_two_96 : decode cX5_two 96 = .ok (.iadd, 1) := by decide +kernel
theorem dX5_two_97 : decode cX5_two 97 = .ok (.istore_n 2, 1) := by decide +kernel
theorem dX5_two_98 : decode cX5_two 98 = .ok (.iload 6, 2) := by decide +kernel
theorem dX5_two_100 : decode cX5_two 100 = .ok (.istore_n 3, 1) := by decide +kernel
theorem dX5_two_101 : decode cX5_two 101 = .ok (.iinc 5 1, 3) := by decide +kernel
theorem dX5_two_104 : decode cX5_two 104 = .ok (.goto (-66), 3) := by decide +kernel
theorem dX5_two_107 : decode cX5_two 107 = .ok (.iinc 4 1, 3) := by decide +kernel
theorem dX5_two_110 : decode cX5_two 110 = .ok (.goto (-90), 3) := by decide +kernel
theorem dX5_two_113 : decode cX5_two 113 = .ok (.iload_n 1, 1) := by decide +kernel
theorem dX5_two_114 : decode cX5_two 114 = .ok (.ifCond .ne 7, 3) := by decide +kernel
theorem dX5_two_117 : decode cX5_two 117 = .ok (.iload_n 2, 1) := by decide +kernel
theorem dX5_two_118 : decode cX5_two 118 = .ok (.goto 4, 3) := by decide +kernel
theorem dX5_two_121 : decode cX5_two 121 = .ok (.iload_n 3, 1) := by decide +kernel
theorem dX5_two_122 : decode cX5_two 122 = .ok (.ireturn, 1) := by decide +kernel
set_option maxRecDepth 20000 in
theorem ggX5_image_X1_take : GoodIn wsX5_image wsX1_take := goodIn_r _ [10, 11, 12, 13, 14, 15, 16, 17, 18, 19, 20, 21, 22, 23, 24, 43, 44, 45, 46, 47, 48, 49, 50, 51, 52] (by decide +kernel) (by decide +kernel)
set_option maxRecDepth 20000 in
theorem gX5_image_X1_take : GoodIn wsX5_image (wsV RX5 142 RX1 yX1_take wsX1_take) := goodIn_app (goodIn_of _ (by decide +kernel)) ggX5_image_X1_take
set_option maxRecDepth 20000 in
theorem ggX5_image_X2_take : GoodIn wsX5_image wsX2_take := goodIn_r _ [29, 30, 31, 14, 15, 16, 32, 33, 53, 54, 55] (by decide +kernel) (by decide +kernel)
set_option maxRecDepth 20000 in
theorem gX5_image_X2_take : GoodIn wsX5_image (wsV RX5 232 RX2 yX2_take wsX2_take) := goodIn_app (goodIn_of _ (by decide +kernel)) ggX5_image_X2_take
theorem dX5_image_0 : decode cX5_image 0 = .ok (.aload_n 0, 1) := by decide +kernel
theorem dX5_image_1 : decode cX5_image 1 = .ok (.getfield 23, 3) := by decide +kernel
theorem dX5_image_4 : decode cX5_image 4 = .ok (.aload_n 0, 1) := by decide +kernel
theorem dX5_image_5 : decode cX5_image 5 = .ok (.getfield 10, 3) := by decide +kernel
theorem dX5_image_8 : decode cX5_image 8 = .ok (.invokevirtual 142, 3) := by decide +kernel
theorem dX5_image_11 : decode cX5_image 11 = .ok (.aload_n 0, 1) := by decide +kernel
theorem dX5_image_12 : decode cX5_image 12 = .ok (.getfield 26, 3) := by decide +kernel
theorem dX5_image_15 : decode cX5_image 15 = .ok (.aload_n 0, 1) := by decide +kernel
theorem dX5_image_16 : decode cX5_image 16 = .ok (.getfield 19, 3) := by decide +kernel
theorem dX5_image_19 : decode cX5_image 19 = .ok (.invokevirtual 232, 3) := by decide +kernel
theorem dX5_image_22 : decode cX5_image 22 = .ok (.aload_n 0, 1) := by decide +kernel
theorem dX5_image_23 : decode cX5_image 23 = .ok (.iconst 1, 1) := by decide +kernel
theorem dX5_image_24 : decode cX5_image 24 = .ok (.putfield 29, 3) := by decide +kernel
theorem dX5_image_27 : decode cX5_image 27 = .ok (.iconst 1, 1) := by decide +kernel
theorem dX5_image_28 : decode cX5_image 28 = .ok (.ireturn, 1) := by decide +kernel
set_option maxRecDepth 20000 in
theorem ggX5_restore_X1_take : GoodIn wsX5_restore wsX1_take := goodIn_r _ [10, 11, 12, 13, 14, 15, 16, 17, 18, 19, 20, 21, 22, 23, 24, 43, 44, 45, 46, 47, 48, 49, 50, 51, 52] (by decide +kernel) (by decide +kernel)
set_option maxRecDepth 20000 in
theorem gX5_restore_X1_take : GoodIn wsX5_restore (wsV RX5 142 RX1 yX1_take wsX1_take) := goodIn_app (goodIn_of _ (by decide +kernel)) ggX5_restore_X1_take
set_option maxRecDepth 20000 in
theorem ggX5_restore_X2_take : GoodIn wsX5_restore wsX2_take := goodIn_r _ [29, 30, 31, 14, 15, 16, 32, 33, 53, 54, 55] (by decide +kernel) (by decide +kernel)
set_option maxRecDepth 20000 in
theorem gX5_restore_X2_take : GoodIn wsX5_restore (wsV RX5 232 RX2 yX2_take wsX2_take) := goodIn_app (goodIn_of _ (by decide +kernel)) ggX5_restore_X2_take
theorem dX5_restore_0 : decode cX5_restore 0 = .ok (.aload_n 0, 1) := by decide +kernel
theorem dX5_restore_1 : decode cX5_restore 1 = .ok (.getfield 29, 3) := by decide +kernel
theorem dX5_restore_4 : decode cX5_restore 4 = .ok (.ifCond .ne 6, 3) := by decide +kernel
theorem dX5_restore_7 : decode cX5_restore 7 = .ok (.bipush (-4), 2) := by decide +kernel
theorem dX5_restore_9 : decode cX5_restore 9 = .ok (.ireturn, 1) := by decide +kernel
theorem dX5_restore_10 : decode cX5_restore 10 = .ok (.aload_n 0, 1) := by decide +kernel
theorem dX5_restore_11 : decode cX5_restore 11 = .ok (.getfield 10, 3) := by decide +kernel
theorem dX5_restore_14 : decode cX5_restore 14 = .ok (.aload_n 0, 1) := by decide +kernel
theorem dX5_restore_15 : decode cX5_restore 15 = .ok (.getfield 23, 3) := by decide +kernel
theorem dX5_restore_18 : decode cX5_restore 18 = .ok (.invokevirtual 142, 3) := by decide +kernel
theorem dX5_restore_21 : decode cX5_restore 21 = .ok (.aload_n 0, 1) := by decide +kernel
theorem dX5_restore_22 : decode cX5_restore 22 = .ok (.getfield 19, 3) := by decide +kernel
theorem dX5_restore_25 : decode cX5_restore 25 = .ok (.aload_n 0, 1) := by decide +kernel
theorem dX5_restore_26 : decode cX5_restore 26 = .ok (.getfield 26, 3) := by decide +kernel
theorem dX5_restore_29 : decode cX5_restore 29 = .ok (.invokevirtual 232, 3) := by decide +kernel
theorem dX5_restore_32 : decode cX5_restore 32 = .ok (.iconst 1, 1) := by decide +kernel
theorem dX5_restore_33 : decode cX5_restore 33 = .ok (.ireturn, 1) := by decide +kernel
set_option maxRecDepth 20000 in
theorem ggX5_film_X1_hasMan : GoodIn wsX5_film wsX1_hasMan := goodIn_r _ [9, 10, 90, 91, 92, 93, 94, 95, 96, 97, 98, 99] (by decide +kernel) (by decide +kernel)
set_option maxRecDepth 20000 in
theorem gX5_film_X1_hasMan : GoodIn wsX5_film (wsV RX5 70 RX1 yX1_hasMan wsX1_hasMan) := goodIn_app (goodIn_of _ (by decide +kernel)) ggX5_film_X1_hasMan
set_option maxRecDepth 20000 in
theorem ggX5_film_X5_isSheet : GoodIn wsX5_film wsX5_isSheet := goodIn_r _ [14] (by decide +kernel) (by decide +kernel)
set_option maxRecDepth 20000 in
theorem gX5_film_X5_isSheet : GoodIn wsX5_film (va_wsS RX5 235 yX5_isSheet wsX5_isSheet) := goodIn_app (goodIn_of _ (by decide +kernel)) ggX5_film_X5_isSheet
set_option maxRecDepth 20000 in
theorem ggX5_film_X5_isLane : GoodIn wsX5_film wsX5_isLane := goodIn_r _ [17] (by decide +kernel) (by decide +kernel)
set_option maxRecDepth 20000 in
theorem gX5_film_X5_isLane : GoodIn wsX5_film (va_wsS RX5 238 yX5_isLane wsX5_isLane) := goodIn_app (goodIn_of _ (by decide +kernel)) ggX5_film_X5_isLane
set_option maxRecDepth 20000 in
theorem ggX5_film_X3_refuses : GoodIn wsX5_film wsX3_refuses := goodIn_r _ [22, 23, 24, 25, 26, 27, 21, 28, 29, 100, 101, 102, 103] (by decide +kernel) (by decide +kernel)
set_option maxRecDepth 20000 in
theorem gX5_film_X3_refuses : GoodIn wsX5_film (wsV RX5 241 RX3 yX3_refuses wsX3_refuses) := goodIn_app (goodIn_of _ (by decide +kernel)) ggX5_film_X3_refuses
set_option maxRecDepth 20000 in
theorem ggX5_film_X1_strengthAfter : GoodIn wsX5_film wsX1_strengthAfter := goodIn_r _ [33, 34, 35, 36, 37, 8, 38, 39, 40, 41, 42, 43, 44, 45, 46, 47, 48, 49, 50, 51, 52, 53, 54, 55, 56, 57, 58, 59, 60, 61, 62, 63, 64, 65, 66, 67, 13, 68, 69, 70, 71, 72, 73, 74, 75, 90, 91, 92, 93, 94, 95, 96, 97, 98, 99] (by decide +kernel) (by decide +kernel)
set_option maxRecDepth 20000 in
theorem gX5_film_X1_strengthAfter : GoodIn wsX5_film (wsV RX5 179 RX1 yX1_strengthAfter wsX1_strengthAfter) := goodIn_app (goodIn_of _ (by decide +kernel)) ggX5_film_X1_strengthAfter
set_option maxRecDepth 20000 in
theorem ggX5_film_X3_put : GoodIn wsX5_film wsX3_put := goodIn_r _ [79, 24, 80, 100, 101, 102, 103] (by decide +kernel) (by decide +kernel)
set_option maxRecDepth 20000 in
theorem gX5_film_X3_put : GoodIn wsX5_film (wsV RX5 248 RX3 yX3_put wsX3_put) := goodIn_app (goodIn_of _ (by decide +kernel)) ggX5_film_X3_put
theorem dX5_film_0 : decode cX5_film 0 = .ok (.aload_n 0, 1) := by decide +kernel
theorem dX5_film_1 : decode cX5_film 1 = .ok (.getfield 10, 3) := by decide +kernel
theorem dX5_film_4 : decode cX5_film 4 = .ok (.iload_n 1, 1) := by decide +kernel
theorem dX5_film_5 : decode cX5_film 5 = .ok (.invokevirtual 70, 3) := by decide +kernel
theorem dX5_film_8 : decode cX5_film 8 = .ok (.ifCond .eq 29, 3) := by decide +kernel
theorem dX5_film_11 : decode cX5_film 11 = .ok (.iload_n 2, 1) := by decide +kernel
theorem dX5_film_12 : decode cX5_film 12 = .ok (.iconst 1, 1) := by decide +kernel
theorem dX5_film_13 : decode cX5_film 13 = .ok (.if_icmp .lt 24, 3) := by decide +kernel
theorem dX5_film_16 : decode cX5_film 16 = .ok (.iload_n 2, 1) := by decide +kernel
theorem dX5_film_17 : decode cX5_film 17 = .ok (.bipush 24, 2) := by decide +kernel
theorem dX5_film_19 : decode cX5_film 19 = .ok (.if_icmp .gt 18, 3) := by decide +kernel
theorem dX5_film_22 : decode cX5_film 22 = .ok (.iload_n 3, 1) := by decide +kernel
theorem dX5_film_23 : decode cX5_film 23 = .ok (.invokestatic 235, 3) := by decide +kernel
theorem dX5_film_26 : decode cX5_film 26 = .ok (.ifCond .eq 11, 3) := by decide +kernel
theorem dX5_film_29 : decode cX5_film 29 = .ok (.iload 4, 2) := by decide +kernel
theorem dX5_film_31 : decode cX5_film 31 = .ok (.invokestatic 238, 3) := by decide +kernel
theorem dX5_film_34 : decode cX5_film 34 = .ok (.ifCond .ne 5, 3) := by decide +kernel
theorem dX5_film_37 : decode cX5_film 37 = .ok (.iconst (-1), 1) := by decide +kernel
theorem dX5_film_38 : decode cX5_film 38 = .ok (.ireturn, 1) := by decide +kernel
theorem dX5_film_39 : decode cX5_film 39 = .ok (.aload_n 0, 1) := by decide +kernel
theorem dX5_film_40 : decode cX5_film 40 = .ok (.getfield 54, 3) := by decide +kernel
theorem dX5_film_43 : decode cX5_film 43 = .ok (.iload_n 3, 1) := by decide +kernel
theorem dX5_film_44 : decode cX5_film 44 = .ok (.aaload, 1) := by decide +kernel
theorem dX5_film_45 : decode cX5_film 45 = .ok (.astore 6, 2) := by decide +kernel
theorem dX5_film_47 : decode cX5_film 47 = .ok (.aload 6, 2) := by decide +kernel
theorem dX5_film_49 : decode cX5_film 49 = .ok (.iload 4, 2) := by decide +kernel
theorem dX5_film_51 : decode cX5_film 51 = .ok (.iload 5, 2) := by decide +kernel
theorem dX5_film_53 : decode cX5_film 53 = .ok (.iload_n 2, 1) := by decide +kernel
theorem dX5_film_54 : decode cX5_film 54 = .ok (.invokevirtual 241, 3) := by decide +kernel
theorem dX5_film_57 : decode cX5_film 57 = .ok (.istore 7, 2) := by decide +kernel
theorem dX5_film_59 : decode cX5_film 59 = .ok (.iload 7, 2) := by decide +kernel
theorem dX5_film_61 : decode cX5_film 61 = .ok (.ifCond .eq 6, 3) := by decide +kernel
theorem dX5_film_64 : decode cX5_film 64 = .ok (.iload 7, 2) := by decide +kernel
theorem dX5_film_66 : decode cX5_film 66 = .ok (.ireturn, 1) := by decide +kernel
theorem dX5_film_67 : decode cX5_film 67 = .ok (.aload_n 0, 1) := by decide +kernel
theorem dX5_film_68 : decode cX5_film 68 = .ok (.getfield 10, 3) := by decide +kernel
theorem dX5_film_71 : decode cX5_film 71 = .ok (.getfield 85, 3) := by decide +kernel
theorem dX5_film_74 : decode cX5_film 74 = .ok (.iload_n 1, 1) := by decide +kernel
theorem dX5_film_75 : decode cX5_film 75 = .ok (.iaload, 1) := by decide +kernel
theorem dX5_film_76 : decode cX5_film 76 = .ok (.istore 8, 2) := by decide +kernel
theorem dX5_film_78 : decode cX5_film 78 = .ok (.iconst 0, 1) := by decide +kernel
theorem dX5_film_79 : decode cX5_film 79 = .ok (.istore 9, 2) := by decide +kernel
theorem dX5_film_81 : decode cX5_film 81 = .ok (.iload 9, 2) := by decide +kernel
theorem dX5_film_83 : decode cX5_film 83 = .ok (.iload_n 2, 1) := by decide +kernel
theorem dX5_film_84 : decode cX5_film 84 = .ok (.if_icmp .ge 44, 3) := by decide +kernel
theorem dX5_film_87 : decode cX5_film 87 = .ok (.aload_n 0, 1) := by decide +kernel
theorem dX5_film_88 : decode cX5_film 88 = .ok (.getfield 10, 3) := by decide +kernel
theorem dX5_film_91 : decode cX5_film 91 = .ok (.iload_n 1, 1) := by decide +kernel
theorem dX5_film_92 : decode cX5_film 92 = .ok (.iload 8, 2) := by decide +kernel
theorem dX5_film_94 : decode cX5_film 94 = .ok (.aload_n 0, 1) := by decide +kernel
theorem dX5_film_95 : decode cX5_film 95 = .ok (.getfield 10, 3) := by decide +kernel
theorem dX5_film_98 : decode cX5_film 98 = .ok (.getfield 88, 3) := by decide +kernel
theorem dX5_film_101 : decode cX5_film 101 = .ok (.iload 9, 2) := by decide +kernel
theorem dX5_film_103 : decode cX5_film 103 = .ok (.iadd, 1) := by decide +kernel
theorem dX5_film_104 : decode cX5_film 104 = .ok (.invokevirtual 179, 3) := by decide +kernel
theorem dX5_film_107 : decode cX5_film 107 = .ok (.istore 8, 2) := by decide +kernel
theorem dX5_film_109 : decode cX5_film 109 = .ok (.aload 6, 2) := by decide +kernel
theorem dX5_film_111 : decode cX5_film 111 = .ok (.iload 5, 2) := by decide +kernel
theorem dX5_film_113 : decode cX5_film 113 = .ok (.iload 9, 2) := by decide +kernel
theorem dX5_film_115 : decode cX5_film 115 = .ok (.iadd, 1) := by decide +kernel
theorem dX5_film_116 : decode cX5_film 116 = .ok (.iload 8, 2) := by decide +kernel
theorem dX5_film_118 : decode cX5_film 118 = .ok (.i2l, 1) := by decide +kernel
theorem dX5_film_119 : decode cX5_film 119 = .ok (.invokevirtual 248, 3) := by decide +kernel
theorem dX5_film_122 : decode cX5_film 122 = .ok (.iinc 9 1, 3) := by decide +kernel
theorem dX5_film_125 : decode cX5_film 125 = .ok (.goto (-44), 3) := by decide +kernel
theorem dX5_film_128 : decode cX5_film 128 = .ok (.iload_n 2, 1) := by decide +kernel
theorem dX5_film_129 : decode cX5_film 129 = .ok (.ireturn, 1) := by decide +kernel
set_option maxRecDepth 20000 in
theorem ggX5_sheet_X5_isSheet : GoodIn wsX5_sheet wsX5_isSheet := goodIn_r _ [5] (by decide +kernel) (by decide +kernel)
set_option maxRecDepth 20000 in
theorem gX5_sheet_X5_isSheet : GoodIn wsX5_sheet (va_wsS RX5 235 yX5_isSheet wsX5_isSheet) := goodIn_app (goodIn_of _ (by decide +kernel)) ggX5_sheet_X5_isSheet
set_option maxRecDepth 20000 in
theorem ggX5_sheet_X5_isLane : GoodIn wsX5_sheet wsX5_isLane := goodIn_r _ [8] (by decide +kernel) (by decide +kernel)
set_option maxRecDepth 20000 in
theorem gX5_sheet_X5_isLane : GoodIn wsX5_sheet (va_wsS RX5 238 yX5_isLane wsX5_isLane) := goodIn_app (goodIn_of _ (by decide +kernel)) ggX5_sheet_X5_isLane
set_option maxRecDepth 20000 in
theorem ggX5_sheet_X3_begin : GoodIn wsX5_sheet wsX3_begin := goodIn_r _ [13, 14, 15, 16, 17, 27, 28, 29, 30] (by decide +kernel) (by decide +kernel)
set_option maxRecDepth 20000 in
theorem gX5_sheet_X3_begin : GoodIn wsX5_sheet (wsV RX5 252 RX3 yX3_begin wsX3_begin) := goodIn_app (goodIn_of _ (by decide +kernel)) ggX5_sheet_X3_begin
theorem dX5_sheet_0 : decode cX5_sheet 0 = .ok (.iload_n 1, 1) := by decide +kernel
theorem dX5_sheet_1 : decode cX5_sheet 1 = .ok (.invokestatic 235, 3) := by decide +kernel
theorem dX5_sheet_4 : decode cX5_sheet 4 = .ok (.ifCond .eq 16, 3) := by decide +kernel
theorem dX5_sheet_7 : decode cX5_sheet 7 = .ok (.iload_n 2, 1) := by decide +kernel
theorem dX5_sheet_8 : decode cX5_sheet 8 = .ok (.invokestatic 238, 3) := by decide +kernel
theorem dX5_sheet_11 : decode cX5_sheet 11 = .ok (.ifCond .eq 9, 3) := by decide +kernel
theorem dX5_sheet_14 : decode cX5_sheet 14 = .ok (.iload_n 3, 1) := by decide +kernel
theorem dX5_sheet_15 : decode cX5_sheet 15 = .ok (.bipush 24, 2) := by decide +kernel
theorem dX5_sheet_17 : decode cX5_sheet 17 = .ok (.if_icmp .le 5, 3) := by decide +kernel
theorem dX5_sheet_20 : decode cX5_sheet 20 = .ok (.iconst (-1), 1) := by decide +kernel
theorem dX5_sheet_21 : decode cX5_sheet 21 = .ok (.ireturn, 1) := by decide +kernel
theorem dX5_sheet_22 : decode cX5_sheet 22 = .ok (.iload_n 3, 1) := by decide +kernel
theorem dX5_sheet_23 : decode cX5_sheet 23 = .ok (.ifCond .ge 6, 3) := by decide +kernel
theorem dX5_sheet_26 : decode cX5_sheet 26 = .ok (.bipush (-14), 2) := by decide +kernel
theorem dX5_sheet_28 : decode cX5_sheet 28 = .ok (.ireturn, 1) := by decide +kernel
theorem dX5_sheet_29 : decode cX5_sheet 29 = .ok (.aload_n 0, 1) := by decide +kernel
theorem dX5_sheet_30 : decode cX5_sheet 30 = .ok (.getfield 54, 3) := by decide +kernel
theorem dX5_sheet_33 : decode cX5_sheet 33 = .ok (.iload_n 1, 1) := by decide +kernel
theorem dX5_sheet_34 : decode cX5_sheet 34 = .ok (.aaload, 1) := by decide +kernel
theorem dX5_sheet_35 : decode cX5_sheet 35 = .ok (.iload_n 2, 1) := by decide +kernel
theorem dX5_sheet_36 : decode cX5_sheet 36 = .ok (.iload_n 3, 1) := by decide +kernel
theorem dX5_sheet_37 : decode cX5_sheet 37 = .ok (.invokevirtual 252, 3) := by decide +kernel
theorem dX5_sheet_40 : decode cX5_sheet 40 = .ok (.iload_n 3, 1) := by decide +kernel
theorem dX5_sheet_41 : decode cX5_sheet 41 = .ok (.ireturn, 1) := by decide +kernel
set_option maxRecDepth 20000 in
theorem ggX5_item_X5_isSheet : GoodIn wsX5_item wsX5_isSheet := goodIn_r _ [5] (by decide +kernel) (by decide +kernel)
set_option maxRecDepth 20000 in
theorem gX5_item_X5_isSheet : GoodIn wsX5_item (va_wsS RX5 235 yX5_isSheet wsX5_isSheet) := goodIn_app (goodIn_of _ (by decide +kernel)) ggX5_item_X5_isSheet
set_option maxRecDepth 20000 in
theorem ggX5_item_X5_isLane : GoodIn wsX5_item wsX5_isLane := goodIn_r _ [8] (by decide +kernel) (by decide +kernel)
set_option maxRecDepth 20000 in
theorem gX5_item_X5_isLane : GoodIn wsX5_item (va_wsS RX5 238 yX5_isLane wsX5_isLane) := goodIn_app (goodIn_of _ (by decide +kernel)) ggX5_item_X5_isLane
set_option maxRecDepth 20000 in
theorem ggX5_item_X3_refuses : GoodIn wsX5_item wsX3_refuses := goodIn_r _ [13, 14, 15, 16, 17, 18, 12, 19, 20, 35, 36, 37, 38] (by decide +kernel) (by decide +kernel)
set_option maxRecDepth 20000 in
theorem gX5_item_X3_refuses : GoodIn wsX5_item (wsV RX5 241 RX3 yX3_refuses wsX3_refuses) := goodIn_app (goodIn_of _ (by decide +kernel)) ggX5_item_X3_refuses
set_option maxRecDepth 20000 in
theorem ggX5_item_X3_put : GoodIn wsX5_item wsX3_put := goodIn_r _ [24, 15, 25, 35, 36, 37, 38] (by decide +kernel) (by decide +kernel)
set_option maxRecDepth 20000 in
theorem gX5_item_X3_put : GoodIn wsX5_item (wsV RX5 248 RX3 yX3_put wsX3_put) := goodIn_app (goodIn_of _ (by decide +kernel)) ggX5_item_X3_put
theorem dX5_item_0 : decode cX5_item 0 = .ok (.iload_n 1, 1) := by decide +kernel
theorem dX5_item_1 : decode cX5_item 1 = .ok (.invokestatic 235, 3) := by decide +kernel
theorem dX5_item_4 : decode cX5_item 4 = .ok (.ifCond .eq 10, 3) := by decide +kernel
theorem dX5_item_7 : decode cX5_item 7 = .ok (.iload_n 2, 1) := by decide +kernel
theorem dX5_item_8 : decode cX5_item 8 = .ok (.invokestatic 238, 3) := by decide +kernel
theorem dX5_item_11 : decode cX5_item 11 = .ok (.ifCond .ne 5, 3) := by decide +kernel
theorem dX5_item_14 : decode cX5_item 14 = .ok (.iconst (-1), 1) := by decide +kernel
theorem dX5_item_15 : decode cX5_item 15 = .ok (.ireturn, 1) := by decide +kernel
theorem dX5_item_16 : decode cX5_item 16 = .ok (.aload_n 0, 1) := by decide +kernel
theorem dX5_item_17 : decode cX5_item 17 = .ok (.getfield 54, 3) := by decide +kernel
theorem dX5_item_20 : decode cX5_item 20 = .ok (.iload_n 1, 1) := by decide +kernel
theorem dX5_item_21 : decode cX5_item 21 = .ok (.aaload, 1) := by decide +kernel
theorem dX5_item_22 : decode cX5_item 22 = .ok (.iload_n 2, 1) := by decide +kernel
theorem dX5_item_23 : decode cX5_item 23 = .ok (.iload_n 3, 1) := by decide +kernel
theorem dX5_item_24 : decode cX5_item 24 = .ok (.iconst 1, 1) := by decide +kernel
theorem dX5_item_25 : decode cX5_item 25 = .ok (.invokevirtual 241, 3) := by decide +kernel
theorem dX5_item_28 : decode cX5_item 28 = .ok (.istore 6, 2) := by decide +kernel
theorem dX5_item_30 : decode cX5_item 30 = .ok (.iload 6, 2) := by decide +kernel
theorem dX5_item_32 : decode cX5_item 32 = .ok (.ifCond .eq 6, 3) := by decide +kernel
theorem dX5_item_35 : decode cX5_item 35 = .ok (.iload 6, 2) := by decide +kernel
theorem dX5_item_37 : decode cX5_item 37 = .ok (.ireturn, 1) := by decide +kernel
theorem dX5_item_38 : decode cX5_item 38 = .ok (.aload_n 0, 1) := by decide +kernel
theorem dX5_item_39 : decode cX5_item 39 = .ok (.getfield 54, 3) := by decide +kernel
theorem dX5_item_42 : decode cX5_item 42 = .ok (.iload_n 1, 1) := by decide +kernel
theorem dX5_item_43 : decode cX5_item 43 = .ok (.aaload, 1) := by decide +kernel
theorem dX5_item_44 : decode cX5_item 44 = .ok (.iload_n 3, 1) := by decide +kernel
theorem dX5_item_45 : decode cX5_item 45 = .ok (.lload 4, 2) := by decide +kernel
theorem dX5_item_47 : decode cX5_item 47 = .ok (.invokevirtual 248, 3) := by decide +kernel
theorem dX5_item_50 : decode cX5_item 50 = .ok (.iconst 1, 1) := by decide +kernel
theorem dX5_item_51 : decode cX5_item 51 = .ok (.ireturn, 1) := by decide +kernel
set_option maxRecDepth 20000 in
theorem ggX5_staysUpright_X5_strengthNext : GoodIn wsX5_staysUpright wsX5_strengthNext := goodIn_r _ [4, 5, 6, 7, 8, 9, 10, 11] (by decide +kernel) (by decide +kernel)
set_option maxRecDepth 20000 in
theorem gX5_staysUpright_X5_strengthNext : GoodIn wsX5_staysUpright (va_wsS RX5 282 yX5_strengthNext wsX5_strengthNext) := goodIn_app (goodIn_of _ (by decide +kernel)) ggX5_staysUpright_X5_strengthNext
theorem dX5_staysUpright_0 : decode cX5_staysUpright 0 = .ok (.iload_n 0, 1) := by decide +kernel
theorem dX5_staysUpright_1 : decode cX5_staysUpright 1 = .ok (.istore 5, 2) := by decide +kernel
theorem dX5_staysUpright_3 : decode cX5_staysUpright 3 = .ok (.iconst 0, 1) := by decide +kernel
theorem dX5_staysUpright_4 : decode cX5_staysUpright 4 = .ok (.istore 6, 2) := by decide +kernel
theorem dX5_staysUpright_6 : decode cX5_staysUpright 6 = .ok (.iload 6, 2) := by decide +kernel
theorem dX5_staysUpright_8 : decode cX5_staysUpright 8 = .ok (.iload 4, 2) := by decide +kernel
theorem dX5_staysUpright_10 : decode cX5_staysUpright 10 = .ok (.if_icmp .gt 42, 3) := by decide +kernel
theorem dX5_staysUpright_13 : decode cX5_staysUpright 13 = .ok (.iload 6, 2) := by decide +kernel
theorem dX5_staysUpright_15 : decode cX5_staysUpright 15 = .ok (.iconst 2, 1) := by decide +kernel
theorem dX5_staysUpright_16 : decode cX5_staysUpright 16 = .ok (.irem, 1) := by decide +kernel
theorem dX5_staysUpright_17 : decode cX5_staysUpright 17 = .ok (.ifCond .ne 7, 3) := by decide +kernel
theorem dX5_staysUpright_20 : decode cX5_staysUpright 20 = .ok (.iload_n 2, 1) := by decide +kernel
theorem dX5_staysUpright_21 : decode cX5_staysUpright 21 = .ok (.goto 4, 3) := by decide +kernel
theorem dX5_staysUpright_24 : decode cX5_staysUpright 24 = .ok (.iload_n 3, 1) := by decide +kernel
theorem dX5_staysUpright_25 : decode cX5_staysUpright 25 = .ok (.istore 7, 2) := by decide +kernel
theorem dX5_staysUpright_27 : decode cX5_staysUpright 27 = .ok (.iload 7, 2) := by decide +kernel
theorem dX5_staysUpright_29 : decode cX5_staysUpright 29 = .ok (.iload 5, 2) := by decide +kernel
theorem dX5_staysUpright_31 : decode cX5_staysUpright 31 = .ok (.if_icmp .le 5, 3) := by decide +kernel
theorem dX5_staysUpright_34 : decode cX5_staysUpright 34 = .ok (.iconst 0, 1) := by decide +kernel
theorem dX5_staysUpright_35 : decode cX5_staysUpright 35 = .ok (.ireturn, 1) := by decide +kernel
theorem dX5_staysUpright_36 : decode cX5_staysUpright 36 = .ok (.iload 5, 2) := by decide +kernel
theorem dX5_staysUpright_38 : decode cX5_staysUpright 38 = .ok (.iload_n 1, 1) := by decide +kernel
theorem dX5_staysUpright_39 : decode cX5_staysUpright 39 = .ok (.iload 7, 2) := by decide +kernel
theorem dX5_staysUpright_41 : decode cX5_staysUpright 41 = .ok (.invokestatic 282, 3) := by decide +kernel
theorem dX5_staysUpright_44 : decode cX5_staysUpright 44 = .ok (.istore 5, 2) := by decide +kernel
theorem dX5_staysUpright_46 : decode cX5_staysUpright 46 = .ok (.iinc 6 1, 3) := by decide +kernel
theorem dX5_staysUpright_49 : decode cX5_staysUpright 49 = .ok (.goto (-43), 3) := by decide +kernel
theorem dX5_staysUpright_52 : decode cX5_staysUpright 52 = .ok (.iconst 1, 1) := by decide +kernel
theorem dX5_staysUpright_53 : decode cX5_staysUpright 53 = .ok (.ireturn, 1) := by decide +kernel
def bX5_film_81 (md_n : Int32) (day_n : Int32) (bu_n : Nat → Int32) (ki_n : Nat → Int32) (we_n : Nat → Int32) (wo_n : Nat → Int32) (wr_n : Nat → Int32) (lan_r : Nat → Int32) (p1 : Int32) (p2 : Int32) (p3 : Int32) (p5 : Int32) (K15 : ((Int32 × Int32 × (Nat → Nat → Int64))) → Option (Int32 × (Nat → Nat → Int64))) : ((Int32 × Int32 × (Nat → Nat → Int64))) → Option (Int32 × (Nat → Nat → Int64))
  | (v8_15, v9_15, itm_r_15) => if p2 ≤ v9_15 then (some (p2, itm_r_15)) else ((fX1_strengthAfter p1 v8_15 (day_n + v9_15) md_n bu_n ki_n we_n wo_n wr_n).bind (fun r17 => (fX3_put (p5 + v9_15) (Int32.toInt64 r17) (lan_r (Int32.toNatClampNeg p3)) (itm_r_15 (Int32.toNatClampNeg p3))).bind (fun r18 => nm (v9_15 + 1) (fun x19 => K15 (r17, x19, va_up itm_r_15 (Int32.toNatClampNeg p3) r18)))))
def fX5_film (p1 : Int32) (p2 : Int32) (p3 : Int32) (p4 : Int32) (p5 : Int32)  (men_n : Int32) (md_n : Int32) (day_n : Int32) (bu_n : Nat → Int32) (st_n : Nat → Int32) (ki_n : Nat → Int32) (we_n : Nat → Int32) (wo_n : Nat → Int32) (wr_n : Nat → Int32) (th_r : Nat → Int32) (lan_r : Nat → Int32) (siz_r : Nat → Int32) (itm_r : Nat → Nat → Int64) : Option (Int32 × (Nat → Nat → Int64)) := (fX1_hasMan p1 men_n).bind (fun r1 => if r1 = 0 then (some ((-1), itm_r)) else (if p2 < 1 then (some ((-1), itm_r)) else (if 24 < p2 then (some ((-1), itm_r)) else ((fX5_isSheet p3).bind (fun r5 => if r5 = 0 then (some ((-1), itm_r)) else ((fX5_isLane p4).bind (fun r7 => if r7 = 0 then (some ((-1), itm_r)) else (gin p3 4 ((fX3_refuses p4 p5 p2 (th_r (Int32.toNatClampNeg p3)) (lan_r (Int32.toNatClampNeg p3)) (siz_r (Int32.toNatClampNeg p3))).bind (fun r11 => if r11 = 0 then (gin p1 5 (nm (st_n (Int32.toNatClampNeg p1)) (fun x14 => lp (bX5_film_81 md_n day_n bu_n ki_n we_n wo_n wr_n lan_r p1 p2 p3 p5) FU (x14, 0, itm_r)))) else (some (r11, itm_r))))))))))))
theorem in_X5_film_X1 : ∀ w ∈ wsX10, w ∈ wsX5_film := by decide +kernel
theorem in_X5_film_X5 : ∀ w ∈ wsX50, w ∈ wsX5_film := by decide +kernel
set_option maxHeartbeats 4000000 in
set_option maxRecDepth 100000 in
theorem ct_X5_film {l : Launch} {D : va_G} {g : Nat → ClassId} {qa : Nat → Nat} {E0 : Nat → va_E} {p1 : Int32} {p2 : Int32} {p3 : Int32} {p4 : Int32} {p5 : Int32} {img_x : Int32} {men_n : Int32} {md_n : Int32} {day_n : Int32} {drw_n : Int32} {bu_n : Nat → Int32} {st_n : Nat → Int32} {ki_n : Nat → Int32} {we_n : Nat → Int32} {wo_n : Nat → Int32} {wr_n : Nat → Int32} {th_r : Nat → Int32} {lan_r : Nat → Int32} {siz_r : Nat → Int32} {itm_r : Nat → Nat → Int64} (hG_x : Xo g qa E0 0 img_x) (hG_n : Mu g qa E0 1 men_n md_n day_n drw_n bu_n st_n ki_n we_n wo_n wr_n) (hG_r : Rs g qa E0 55 th_r lan_r siz_r itm_r) {R : (Int32 × (Nat → Nat → Int64))} (hf : fX5_film p1 p2 p3 p4 p5 men_n md_n day_n bu_n st_n ki_n we_n wo_n wr_n th_r lan_r siz_r itm_r = some R) : MI l yX5_film wsX5_film 4 D g qa E0 [.ref (qa 0), .int p1, .int p2, .int p3, .int p4, .int p5] R.1 (fun E => Rs g qa E 55 th_r lan_r siz_r R.2 ∧ ∀ j, (j < 55 ∨ 64 ≤ j) → E j = E0 j) := by
  refine MI.mk (by decide) rfl (Nat.le_of_ble_eq_true rfl) ?_
  intro p e s m args below meth c ls Q X hret hP hS hl
  have hl : lv_has ls 10 [(0, .ref (qa 0)), (1, .int p1), (2, .int p2), (3, .int p3), (4, .int p4), (5, .int p5)] := hl
  have hfr : ∀ j, (j < 55 ∨ 64 ≤ j) → E0 j = E0 j := fun _ _ => rfl
  rw [fX5_film] at hf
  refine lv_aload_n X.1 X.2.1 dX5_film_0 rfl (lv_at hl 0 rfl) ?_
  refine x_get X hP hG_x (by omega) rfl in_X5_film_X5 0 (by decide) (by decide +kernel) rfl rfl dX5_film_1 ?_
  refine lv_iload_n X.1 X.2.1 dX5_film_4 rfl (lv_at hl 1 rfl) ?_
  obtain ⟨r1, hr1, hf⟩ := bd_of hf
  refine x_rdVi X hP hS hG_n.1 (by omega) rfl (n := 1) (As := [.int p1]) (ct_X1_hasMan (by omega) hG_n hr1) gX5_film_X1_hasMan rfl (by decide +kernel) ⟨by decide, by decide⟩ rfl hl.1 rfl (Nat.le_of_ble_eq_true rfl) dX5_film_5 (fun H locs hP hS => ?_)
  refine lv_if_eq (tgt := 37) X.1 X.2.1 dX5_film_8 (by decide) (fun c2 => ?_) (fun c2 => ?_)
  · have hf := ifp hf c2
    refine lv_iconst (v := (-1)) X.1 X.2.1 dX5_film_37 (by decide) ?_
    obtain rfl := Option.some.inj hf
    exact hret _ _ _ _ _ _ dX5_film_38 rfl rfl (⟨hG_r, hfr⟩) hP hS
  · have hf := ifn hf c2
    refine lv_iload_n X.1 X.2.1 dX5_film_11 rfl (lv_at hl 2 rfl) ?_
    refine lv_iconst (v := 1) X.1 X.2.1 dX5_film_12 (by decide) ?_
    refine lv_icmp_lt (tgt := 37) X.1 X.2.1 dX5_film_13 (by decide) (fun c3 => ?_) (fun c3 => ?_)
    · have hf := ifp hf c3
      refine lv_iconst (v := (-1)) X.1 X.2.1 dX5_film_37 (by decide) ?_
      obtain rfl := Option.some.inj hf
      exact hret _ _ _ _ _ _ dX5_film_38 rfl rfl (⟨hG_r, hfr⟩) hP hS
    · have hf := ifn hf c3
      refine lv_iload_n X.1 X.2.1 dX5_film_16 rfl (lv_at hl 2 rfl) ?_
      refine lv_bipush (v := 24) X.1 X.2.1 dX5_film_17 (by decide) ?_
      refine lv_icmp_gt (tgt := 37) X.1 X.2.1 dX5_film_19 (by decide) (fun c4 => ?_) (fun c4 => ?_)
      · have hf := ifp hf c4
        refine lv_iconst (v := (-1)) X.1 X.2.1 dX5_film_37 (by decide) ?_
        obtain rfl := Option.some.inj hf
        exact hret _ _ _ _ _ _ dX5_film_38 rfl rfl (⟨hG_r, hfr⟩) hP hS
      · have hf := ifn hf c4
        refine lv_iload_n X.1 X.2.1 dX5_film_22 rfl (lv_at hl 3 rfl) ?_
        obtain ⟨r5, hr5, hf⟩ := bd_of hf
        refine x_rdSi X hP hS (index := 235) (n := 1) (As := [.int p3]) (ct_X5_isSheet  hr5) ggX5_film_X5_isSheet (by decide +kernel) (by decide +kernel) (by decide +kernel) rfl (by decide +kernel) ⟨by decide, by decide⟩ rfl hl.1 rfl (Nat.le_of_ble_eq_true rfl) dX5_film_23 (fun H locs hP hS => ?_)
        refine lv_if_eq (tgt := 37) X.1 X.2.1 dX5_film_26 (by decide) (fun c6 => ?_) (fun c6 => ?_)
        · have hf := ifp hf c6
          refine lv_iconst (v := (-1)) X.1 X.2.1 dX5_film_37 (by decide) ?_
          obtain rfl := Option.some.inj hf
          exact hret _ _ _ _ _ _ dX5_film_38 rfl rfl (⟨hG_r, hfr⟩) hP hS
        · have hf := ifn hf c6
          refine lv_iload X.1 X.2.1 dX5_film_29 (lv_at hl 4 rfl) ?_
          obtain ⟨r7, hr7, hf⟩ := bd_of hf
          refine x_rdSi X hP hS (index := 238) (n := 1) (As := [.int p4]) (ct_X5_isLane  hr7) ggX5_film_X5_isLane (by decide +kernel) (by decide +kernel) (by decide +kernel) rfl (by decide +kernel) ⟨by decide, by decide⟩ rfl hl.1 rfl (Nat.le_of_ble_eq_true rfl) dX5_film_31 (fun H locs hP hS => ?_)
          refine lv_if_ne (tgt := 39) X.1 X.2.1 dX5_film_34 (by decide) (fun c8 => ?_) (fun c8 => ?_)
          · have hf := ifn hf c8
            refine lv_aload_n X.1 X.2.1 dX5_film_39 rfl (lv_at hl 0 rfl) ?_
            refine x_get X hP hG_x (by omega) rfl in_X5_film_X5 8 (by decide) (by decide +kernel) rfl rfl dX5_film_40 ?_
            refine lv_iload_n X.1 X.2.1 dX5_film_43 rfl (lv_at hl 3 rfl) ?_
            obtain ⟨hi9, hf⟩ := gin_of hf
            have hj10 := in_lt hi9
            refine x_aald X hP 4 rfl rfl hG_r.1 (by omega) hi9 dX5_film_44 ?_
            refine lv_astore (lv' := [(6, .ref (qa (55 + 1 + (Int32.toNatClampNeg p3)))), (0, .ref (qa 0)), (1, .int p1), (2, .int p2), (3, .int p3), (4, .int p4), (5, .int p5)]) X.1 X.2.1 dX5_film_45 hl (by decide) rfl (fun ls hl => ?_)
            refine lv_aload X.1 X.2.1 dX5_film_47 (lv_at hl 0 rfl) ?_
            refine lv_iload X.1 X.2.1 dX5_film_49 (lv_at hl 5 rfl) ?_
            refine lv_iload X.1 X.2.1 dX5_film_51 (lv_at hl 6 rfl) ?_
            refine lv_iload_n X.1 X.2.1 dX5_film_53 rfl (lv_at hl 3 rfl) ?_
            obtain ⟨r11, hr11, hf⟩ := bd_of hf
            refine x_rdVi X hP hS (hG_r.2.1 _ hj10) (by omega) rfl (n := 3) (As := [.int p4, .int p5, .int p2]) (ct_X3_refuses (by omega) (Ro_of hG_r hj10) hr11) gX5_film_X3_refuses rfl (by decide +kernel) ⟨by decide, by decide⟩ rfl hl.1 rfl (Nat.le_of_ble_eq_true rfl) dX5_film_54 (fun H locs hP hS => ?_)
            refine lv_istore (lv' := [(7, .int r11), (6, .ref (qa (55 + 1 + (Int32.toNatClampNeg p3)))), (0, .ref (qa 0)), (1, .int p1), (2, .int p2), (3, .int p3), (4, .int p4), (5, .int p5)]) X.1 X.2.1 dX5_film_57 hl (by decide) rfl (fun ls hl => ?_)
            refine lv_iload X.1 X.2.1 dX5_film_59 (lv_at hl 0 rfl) ?_
            refine lv_if_eq (tgt := 67) X.1 X.2.1 dX5_film_61 (by decide) (fun c12 => ?_) (fun c12 => ?_)
            · have hf := ifp hf c12
              refine lv_aload_n X.1 X.2.1 dX5_film_67 rfl (lv_at hl 2 rfl) ?_
              refine x_get X hP hG_x (by omega) rfl in_X5_film_X5 0 (by decide) (by decide +kernel) rfl rfl dX5_film_68 ?_
              refine x_get X hP hG_n.1 (by omega) rfl in_X5_film_X1 2 (by decide) (by decide +kernel) rfl rfl dX5_film_71 ?_
              refine lv_iload_n X.1 X.2.1 dX5_film_74 rfl (lv_at hl 3 rfl) ?_
              obtain ⟨hi13, hf⟩ := gin_of hf
              refine x_iald X hP hG_n.2.2.1 (by omega) hi13 dX5_film_75 ?_
              obtain ⟨x14, ex14, hf⟩ := nm_of hf
              refine lv_top_as ex14 ?_
              refine lv_istore (lv' := [(8, .int x14), (7, .int r11), (6, .ref (qa (55 + 1 + (Int32.toNatClampNeg p3)))), (0, .ref (qa 0)), (1, .int p1), (2, .int p2), (3, .int p3), (4, .int p4), (5, .int p5)]) X.1 X.2.1 dX5_film_76 hl (by decide) rfl (fun ls hl => ?_)
              refine lv_iconst (v := 0) X.1 X.2.1 dX5_film_78 (by decide) ?_
              refine lv_istore (lv' := [(9, .int 0), (8, .int x14), (7, .int r11), (6, .ref (qa (55 + 1 + (Int32.toNatClampNeg p3)))), (0, .ref (qa 0)), (1, .int p1), (2, .int p2), (3, .int p3), (4, .int p4), (5, .int p5)]) X.1 X.2.1 dX5_film_79 hl (by decide) rfl (fun ls hl => ?_)
              have lp15 : ∀ (n15 : Nat) (v8_15 : Int32) (v9_15 : Int32) (itm_r_15 : Nat → Nat → Int64) (E : Nat → va_E) (H : Heap) (locs : List Loc) (ls : Array Slot), lp (bX5_film_81 md_n day_n bu_n ki_n we_n wo_n wr_n lan_r p1 p2 p3 p5) n15 (v8_15, v9_15, itm_r_15) = some R → va_P D vwCl (WD qa E) H → va_S (gA qa s.heap.size) s.heap H locs → Xo g qa E 0 img_x → Mu g qa E 1 men_n md_n day_n drw_n bu_n st_n ki_n we_n wo_n wr_n → Rs g qa E 55 th_r lan_r siz_r itm_r_15 → (∀ j, (j < 55 ∨ 64 ≤ j) → E j = E0 j) → lv_has ls 10 [(0, .ref (qa 0)), (1, .int p1), (2, .int p2), (3, .int p3), (4, .int p4), (5, .int p5), (6, .ref (qa (55 + 1 + (Int32.toNatClampNeg p3)))), (7, .int r11), (8, .int v8_15), (9, .int v9_15)] → W p l e (rmf 4) s m args below meth c H locs 0 0 Q (F0 m 81 ls []) := by
                intro n15
                induction n15 with
                | zero =>
                  intro v8_15 v9_15 itm_r_15 E H locs ls hf
                  exact absurd hf (by intro h; cases h)
                | succ n15 ih15 =>
                  intro v8_15 v9_15 itm_r_15 E H locs ls hf hP hS hG_x hG_n hG_r hfr hl
                  have hf : bX5_film_81 md_n day_n bu_n ki_n we_n wo_n wr_n lan_r p1 p2 p3 p5 (lp (bX5_film_81 md_n day_n bu_n ki_n we_n wo_n wr_n lan_r p1 p2 p3 p5) n15) (v8_15, v9_15, itm_r_15) = some R := hf
                  rw [bX5_film_81] at hf
                  refine lv_iload X.1 X.2.1 dX5_film_81 (lv_at hl 9 rfl) ?_
                  refine lv_iload_n X.1 X.2.1 dX5_film_83 rfl (lv_at hl 2 rfl) ?_
                  refine lv_icmp_ge (tgt := 128) X.1 X.2.1 dX5_film_84 (by decide) (fun c16 => ?_) (fun c16 => ?_)
                  · have hf := ifp hf c16
                    refine lv_iload_n X.1 X.2.1 dX5_film_128 rfl (lv_at hl 2 rfl) ?_
                    obtain rfl := Option.some.inj hf
                    exact hret _ _ _ _ _ _ dX5_film_129 rfl rfl (⟨hG_r, hfr⟩) hP hS
                  · have hf := ifn hf c16
                    refine lv_aload_n X.1 X.2.1 dX5_film_87 rfl (lv_at hl 0 rfl) ?_
                    refine x_get X hP hG_x (by omega) rfl in_X5_film_X5 0 (by decide) (by decide +kernel) rfl rfl dX5_film_88 ?_
                    refine lv_iload_n X.1 X.2.1 dX5_film_91 rfl (lv_at hl 1 rfl) ?_
                    refine lv_iload X.1 X.2.1 dX5_film_92 (lv_at hl 8 rfl) ?_
                    refine lv_aload_n X.1 X.2.1 dX5_film_94 rfl (lv_at hl 0 rfl) ?_
                    refine x_get X hP hG_x (by omega) rfl in_X5_film_X5 0 (by decide) (by decide +kernel) rfl rfl dX5_film_95 ?_
                    refine x_get X hP hG_n.1 (by omega) rfl in_X5_film_X1 8 (by decide) (by decide +kernel) rfl rfl dX5_film_98 ?_
                    refine lv_iload X.1 X.2.1 dX5_film_101 (lv_at hl 9 rfl) ?_
                    refine lv_iadd X.1 X.2.1 dX5_film_103 ?_
                    obtain ⟨r17, hr17, hf⟩ := bd_of hf
                    refine x_rdVi X hP hS hG_n.1 (by omega) rfl (n := 3) (As := [.int p1, .int v8_15, .int (day_n + v9_15)]) (ct_X1_strengthAfter (by omega) hG_n hr17) gX5_film_X1_strengthAfter rfl (by decide +kernel) ⟨by decide, by decide⟩ rfl hl.1 rfl (Nat.le_of_ble_eq_true rfl) dX5_film_104 (fun H locs hP hS => ?_)
                    refine lv_istore (lv' := [(8, .int r17), (0, .ref (qa 0)), (1, .int p1), (2, .int p2), (3, .int p3), (4, .int p4), (5, .int p5), (6, .ref (qa (55 + 1 + (Int32.toNatClampNeg p3)))), (7, .int r11), (9, .int v9_15)]) X.1 X.2.1 dX5_film_107 hl (by decide) rfl (fun ls hl => ?_)
                    refine lv_aload X.1 X.2.1 dX5_film_109 (lv_at hl 7 rfl) ?_
                    refine lv_iload X.1 X.2.1 dX5_film_111 (lv_at hl 6 rfl) ?_
                    refine lv_iload X.1 X.2.1 dX5_film_113 (lv_at hl 9 rfl) ?_
                    refine lv_iadd X.1 X.2.1 dX5_film_115 ?_
                    refine lv_iload X.1 X.2.1 dX5_film_116 (lv_at hl 0 rfl) ?_
                    refine lv_i2l X.1 X.2.1 dX5_film_118 rfl ?_
                    obtain ⟨r18, hr18, hf⟩ := bd_of hf
                    refine x_callVv X hP hS (hG_r.2.1 _ hj10) (by omega) rfl (n := 2) (As := [.int (p5 + v9_15), .long (Int32.toInt64 r17)]) (ct_X3_put (by omega) (Ro_of hG_r hj10) hr18) gX5_film_X3_put rfl (by decide +kernel) ⟨by decide, by decide⟩ rfl hl.1 rfl (Nat.le_of_ble_eq_true rfl) dX5_film_119 (fun E H locs hp hP hS => ?_)
                    obtain ⟨hW_r, hk⟩ := hp
                    have hG_r := Rs_put hG_r hj10 hW_r hk
                    try simp only [va_up_id] at hG_r
                    have hG_x := Xo_kept hG_x (fun j h8 h9 => hk j (by omega))
                    have hG_n := Mu_kept hG_n (fun j h8 h9 => hk j (by omega))
                    have hfr : ∀ j, (j < 55 ∨ 64 ≤ j) → E j = E0 j := fun j o0 => (hk j (by omega)).trans (hfr j o0)
                    obtain ⟨x19, ex19, hf⟩ := nm_of hf
                    refine lv_iinc (v := x19) (lv' := [(9, .int x19), (8, .int r17), (0, .ref (qa 0)), (1, .int p1), (2, .int p2), (3, .int p3), (4, .int p4), (5, .int p5), (6, .ref (qa (55 + 1 + (Int32.toNatClampNeg p3)))), (7, .int r11)]) X.1 X.2.1 dX5_film_122 hl (k := 9) rfl (by rw [ex19]; rfl) (by decide) rfl (fun ls hl => ?_)
                    refine lv_goto (tgt := 81) X.1 X.2.1 dX5_film_125 (by decide) ?_
                    exact ih15 r17 x19 (va_up itm_r_15 (Int32.toNatClampNeg p3) r18) _ _ _ _ hf hP hS hG_x hG_n hG_r hfr (lv_sub hl [2, 3, 4, 5, 6, 7, 8, 9, 1, 0] rfl)
              exact lp15 FU x14 0 itm_r _ _ _ _ hf hP hS hG_x hG_n hG_r hfr (lv_sub hl [4, 5, 6, 7, 8, 9, 3, 2, 1, 0] rfl)
            · have hf := ifn hf c12
              refine lv_iload X.1 X.2.1 dX5_film_64 (lv_at hl 0 rfl) ?_
              obtain rfl := Option.some.inj hf
              exact hret _ _ _ _ _ _ dX5_film_66 rfl rfl (⟨hG_r, hfr⟩) hP hS
          · have hf := ifp hf c8
            refine lv_iconst (v := (-1)) X.1 X.2.1 dX5_film_37 (by decide) ?_
            obtain rfl := Option.some.inj hf
            exact hret _ _ _ _ _ _ dX5_film_38 rfl rfl (⟨hG_r, hfr⟩) hP hS
def fX5_hang (p1 : Int32) (p2 : Int32)  (men_n : Int32) (md_n : Int32) (day_n : Int32) (drw_n : Int32) (st_n : Nat → Int32) (we_n : Nat → Int32) (wr_n : Nat → Int32) (kn_p : Int32) (nx_p : Int32) (ke_p : Nat → Nat → Int32) : Option (Int32 × (Nat → Int32) × Int32 × Int32 × (Nat → Nat → Int32)) := (fX1_hasMedal p1 md_n).bind (fun r1 => if r1 = 0 then (some ((-1), wr_n, kn_p, nx_p, ke_p)) else (if p2 = (-4) then (gin p1 6 (nm (wr_n (Int32.toNatClampNeg p1)) (fun x5 => if x5 = p2 then (some ((-2), wr_n, kn_p, nx_p, ke_p)) else ((fX2_keep kn_p nx_p ke_p day_n drw_n st_n we_n wr_n).bind (fun r7 => gin p1 6 (some (x5, upd wr_n (Int32.toNatClampNeg p1) p2, r7.1, r7.2.1, r7.2.2))))))) else ((fX1_hasMan p2 men_n).bind (fun r9 => if r9 = 0 then (some ((-1), wr_n, kn_p, nx_p, ke_p)) else (gin p1 6 (nm (wr_n (Int32.toNatClampNeg p1)) (fun x12 => if x12 = p2 then (some ((-2), wr_n, kn_p, nx_p, ke_p)) else ((fX2_keep kn_p nx_p ke_p day_n drw_n st_n we_n wr_n).bind (fun r14 => gin p1 6 (some (x12, upd wr_n (Int32.toNatClampNeg p1) p2, r14.1, r14.2.1, r14.2.2)))))))))))
theorem in_X5_hang_X1 : ∀ w ∈ wsX10, w ∈ wsX5_hang := by decide +kernel
theorem in_X5_hang_X5 : ∀ w ∈ wsX50, w ∈ wsX5_hang := by decide +kernel
set_option maxHeartbeats 4000000 in
set_option maxRecDepth 100000 in
theorem ct_X5_hang {l : Launch} {D : va_G} {g : Nat → ClassId} {qa : Nat → Nat} {E0 : Nat → va_E} {p1 : Int32} {p2 : Int32} {img_x : Int32} {men_n : Int32} {md_n : Int32} {day_n : Int32} {drw_n : Int32} {bu_n : Nat → Int32} {st_n : Nat → Int32} {ki_n : Nat → Int32} {we_n : Nat → Int32} {wo_n : Nat → Int32} {wr_n : Nat → Int32} {kn_p : Int32} {nx_p : Int32} {ke_p : Nat → Nat → Int32} (hG_x : Xo g qa E0 0 img_x) (hG_n : Mu g qa E0 1 men_n md_n day_n drw_n bu_n st_n ki_n we_n wo_n wr_n) (hG_p : Pa g qa E0 8 kn_p nx_p ke_p) {R : (Int32 × (Nat → Int32) × Int32 × Int32 × (Nat → Nat → Int32))} (hf : fX5_hang p1 p2 men_n md_n day_n drw_n st_n we_n wr_n kn_p nx_p ke_p = some R) : MI l yX5_hang wsX5_hang 2 D g qa E0 [.ref (qa 0), .int p1, .int p2] R.1 (fun E => Mu g qa E 1 men_n md_n day_n drw_n bu_n st_n ki_n we_n wo_n R.2.1 ∧ Pa g qa E 8 R.2.2.1 R.2.2.2.1 R.2.2.2.2 ∧ ∀ j, (j < 1 ∨ 8 ≤ j) → (j < 8 ∨ 18 ≤ j) → E j = E0 j) := by
  refine MI.mk (by decide) rfl (Nat.le_of_ble_eq_true rfl) ?_
  intro p e s m args below meth c ls Q X hret hP hS hl
  have hl : lv_has ls 4 [(0, .ref (qa 0)), (1, .int p1), (2, .int p2)] := hl
  have hfr : ∀ j, (j < 1 ∨ 8 ≤ j) → (j < 8 ∨ 18 ≤ j) → E0 j = E0 j := fun _ _ _ => rfl
  rw [fX5_hang] at hf
  refine lv_aload_n X.1 X.2.1 dX5_hang_0 rfl (lv_at hl 0 rfl) ?_
  refine x_get X hP hG_x (by omega) rfl in_X5_hang_X5 0 (by decide) (by decide +kernel) rfl rfl dX5_hang_1 ?_
  refine lv_iload_n X.1 X.2.1 dX5_hang_4 rfl (lv_at hl 1 rfl) ?_
  obtain ⟨r1, hr1, hf⟩ := bd_of hf
  refine x_rdVi X hP hS hG_n.1 (by omega) rfl (n := 1) (As := [.int p1]) (ct_X1_hasMedal (by omega) hG_n hr1) gX5_hang_X1_hasMedal rfl (by decide +kernel) ⟨by decide, by decide⟩ rfl hl.1 rfl (Nat.le_of_ble_eq_true rfl) dX5_hang_5 (fun H locs hP hS => ?_)
  refine lv_if_eq (tgt := 28) X.1 X.2.1 dX5_hang_8 (by decide) (fun c2 => ?_) (fun c2 => ?_)
  · have hf := ifp hf c2
    refine lv_iconst (v := (-1)) X.1 X.2.1 dX5_hang_28 (by decide) ?_
    obtain rfl := Option.some.inj hf
    exact hret _ _ _ _ _ _ dX5_hang_29 rfl rfl (⟨hG_n, hG_p, hfr⟩) hP hS
  · have hf := ifn hf c2
    refine lv_iload_n X.1 X.2.1 dX5_hang_11 rfl (lv_at hl 2 rfl) ?_
    refine lv_bipush (v := (-4)) X.1 X.2.1 dX5_hang_12 (by decide) ?_
    refine lv_icmp_eq (tgt := 30) X.1 X.2.1 dX5_hang_14 (by decide) (fun c3 => ?_) (fun c3 => ?_)
    · have hf := ifp hf c3
      refine lv_aload_n X.1 X.2.1 dX5_hang_30 rfl (lv_at hl 0 rfl) ?_
      refine x_get X hP hG_x (by omega) rfl in_X5_hang_X5 0 (by decide) (by decide +kernel) rfl rfl dX5_hang_31 ?_
      refine x_get X hP hG_n.1 (by omega) rfl in_X5_hang_X1 7 (by decide) (by decide +kernel) rfl rfl dX5_hang_34 ?_
      refine lv_iload_n X.1 X.2.1 dX5_hang_37 rfl (lv_at hl 1 rfl) ?_
      obtain ⟨hi4, hf⟩ := gin_of hf
      refine x_iald X hP hG_n.2.2.2.2.2.2 (by omega) hi4 dX5_hang_38 ?_
      obtain ⟨x5, ex5, hf⟩ := nm_of hf
      refine lv_top_as ex5 ?_
      refine lv_istore_n (lv' := [(3, .int x5), (0, .ref (qa 0)), (1, .int p1), (2, .int p2)]) X.1 X.2.1 dX5_hang_39 rfl hl (by decide) rfl (fun ls hl => ?_)
      refine lv_iload_n X.1 X.2.1 dX5_hang_40 rfl (lv_at hl 0 rfl) ?_
      refine lv_iload_n X.1 X.2.1 dX5_hang_41 rfl (lv_at hl 3 rfl) ?_
      refine lv_icmp_ne (tgt := 48) X.1 X.2.1 dX5_hang_42 (by decide) (fun c6 => ?_) (fun c6 => ?_)
      · have hf := ifn hf c6
        refine lv_aload_n X.1 X.2.1 dX5_hang_48 rfl (lv_at hl 1 rfl) ?_
        refine x_get X hP hG_x (by omega) rfl in_X5_hang_X5 1 (by decide) (by decide +kernel) rfl rfl dX5_hang_49 ?_
        refine lv_aload_n X.1 X.2.1 dX5_hang_52 rfl (lv_at hl 1 rfl) ?_
        refine x_get X hP hG_x (by omega) rfl in_X5_hang_X5 0 (by decide) (by decide +kernel) rfl rfl dX5_hang_53 ?_
        obtain ⟨r7, hr7, hf⟩ := bd_of hf
        refine x_callVv X hP hS hG_p.1 (by omega) rfl (n := 1) (As := [.ref (qa 1)]) (ct_X2_keep hG_p hG_n hr7) gX5_hang_X2_keep rfl (by decide +kernel) ⟨by decide, by decide⟩ rfl hl.1 rfl (Nat.le_of_ble_eq_true rfl) dX5_hang_56 (fun E H locs hp hP hS => ?_)
        obtain ⟨hW_p, hk⟩ := hp
        have hG_p := hW_p
        have hG_x := Xo_kept hG_x (fun j h8 h9 => hk j (by omega))
        have hG_n := Mu_kept hG_n (fun j h8 h9 => hk j (by omega))
        have hfr : ∀ j, (j < 1 ∨ 8 ≤ j) → (j < 8 ∨ 18 ≤ j) → E j = E0 j := fun j o0 o1 => (hk j (by omega)).trans (hfr j o0 o1)
        refine lv_aload_n X.1 X.2.1 dX5_hang_59 rfl (lv_at hl 1 rfl) ?_
        refine x_get X hP hG_x (by omega) rfl in_X5_hang_X5 0 (by decide) (by decide +kernel) rfl rfl dX5_hang_60 ?_
        refine x_get X hP hG_n.1 (by omega) rfl in_X5_hang_X1 7 (by decide) (by decide +kernel) rfl rfl dX5_hang_63 ?_
        refine lv_iload_n X.1 X.2.1 dX5_hang_66 rfl (lv_at hl 2 rfl) ?_
        refine lv_iload_n X.1 X.2.1 dX5_hang_67 rfl (lv_at hl 3 rfl) ?_
        obtain ⟨hi8, hf⟩ := gin_of hf
        refine x_iast X hP hS hG_n.2.2.2.2.2.2 (by omega) hi8 dX5_hang_68 (fun E H locs h1 hk hP hS => ?_)
        have hG_n := Mu_set_6 hG_n h1 hk
        have hG_x := Xo_kept hG_x (fun j h8 h9 => hk j (by omega))
        have hG_p := Pa_kept hG_p (fun j h8 h9 => hk j (by omega))
        have hfr : ∀ j, (j < 1 ∨ 8 ≤ j) → (j < 8 ∨ 18 ≤ j) → E j = E0 j := fun j o0 o1 => (hk j (by omega)).trans (hfr j o0 o1)
        refine lv_iload_n X.1 X.2.1 dX5_hang_69 rfl (lv_at hl 0 rfl) ?_
        obtain rfl := Option.some.inj hf
        exact hret _ _ _ _ _ _ dX5_hang_70 rfl rfl (⟨hG_n, hG_p, hfr⟩) hP hS
      · have hf := ifp hf c6
        refine lv_bipush (v := (-2)) X.1 X.2.1 dX5_hang_45 (by decide) ?_
        obtain rfl := Option.some.inj hf
        exact hret _ _ _ _ _ _ dX5_hang_47 rfl rfl (⟨hG_n, hG_p, hfr⟩) hP hS
    · have hf := ifn hf c3
      refine lv_aload_n X.1 X.2.1 dX5_hang_17 rfl (lv_at hl 0 rfl) ?_
      refine x_get X hP hG_x (by omega) rfl in_X5_hang_X5 0 (by decide) (by decide +kernel) rfl rfl dX5_hang_18 ?_
      refine lv_iload_n X.1 X.2.1 dX5_hang_21 rfl (lv_at hl 2 rfl) ?_
      obtain ⟨r9, hr9, hf⟩ := bd_of hf
      refine x_rdVi X hP hS hG_n.1 (by omega) rfl (n := 1) (As := [.int p2]) (ct_X1_hasMan (by omega) hG_n hr9) gX5_hang_X1_hasMan rfl (by decide +kernel) ⟨by decide, by decide⟩ rfl hl.1 rfl (Nat.le_of_ble_eq_true rfl) dX5_hang_22 (fun H locs hP hS => ?_)
      refine lv_if_ne (tgt := 30) X.1 X.2.1 dX5_hang_25 (by decide) (fun c10 => ?_) (fun c10 => ?_)
      · have hf := ifn hf c10
        refine lv_aload_n X.1 X.2.1 dX5_hang_30 rfl (lv_at hl 0 rfl) ?_
        refine x_get X hP hG_x (by omega) rfl in_X5_hang_X5 0 (by decide) (by decide +kernel) rfl rfl dX5_hang_31 ?_
        refine x_get X hP hG_n.1 (by omega) rfl in_X5_hang_X1 7 (by decide) (by decide +kernel) rfl rfl dX5_hang_34 ?_
        refine lv_iload_n X.1 X.2.1 dX5_hang_37 rfl (lv_at hl 1 rfl) ?_
        obtain ⟨hi11, hf⟩ := gin_of hf
        refine x_iald X hP hG_n.2.2.2.2.2.2 (by omega) hi11 dX5_hang_38 ?_
        obtain ⟨x12, ex12, hf⟩ := nm_of hf
        refine lv_top_as ex12 ?_
        refine lv_istore_n (lv' := [(3, .int x12), (0, .ref (qa 0)), (1, .int p1), (2, .int p2)]) X.1 X.2.1 dX5_hang_39 rfl hl (by decide) rfl (fun ls hl => ?_)
        refine lv_iload_n X.1 X.2.1 dX5_hang_40 rfl (lv_at hl 0 rfl) ?_
        refine lv_iload_n X.1 X.2.1 dX5_hang_41 rfl (lv_at hl 3 rfl) ?_
        refine lv_icmp_ne (tgt := 48) X.1 X.2.1 dX5_hang_42 (by decide) (fun c13 => ?_) (fun c13 => ?_)
        · have hf := ifn hf c13
          refine lv_aload_n X.1 X.2.1 dX5_hang_48 rfl (lv_at hl 1 rfl) ?_
          refine x_get X hP hG_x (by omega) rfl in_X5_hang_X5 1 (by decide) (by decide +kernel) rfl rfl dX5_hang_49 ?_
          refine lv_aload_n X.1 X.2.1 dX5_hang_52 rfl (lv_at hl 1 rfl) ?_
          refine x_get X hP hG_x (by omega) rfl in_X5_hang_X5 0 (by decide) (by decide +kernel) rfl rfl dX5_hang_53 ?_
          obtain ⟨r14, hr14, hf⟩ := bd_of hf
          refine x_callVv X hP hS hG_p.1 (by omega) rfl (n := 1) (As := [.ref (qa 1)]) (ct_X2_keep hG_p hG_n hr14) gX5_hang_X2_keep rfl (by decide +kernel) ⟨by decide, by decide⟩ rfl hl.1 rfl (Nat.le_of_ble_eq_true rfl) dX5_hang_56 (fun E H locs hp hP hS => ?_)
          obtain ⟨hW_p, hk⟩ := hp
          have hG_p := hW_p
          have hG_x := Xo_kept hG_x (fun j h8 h9 => hk j (by omega))
          have hG_n := Mu_kept hG_n (fun j h8 h9 => hk j (by omega))
          have hfr : ∀ j, (j < 1 ∨ 8 ≤ j) → (j < 8 ∨ 18 ≤ j) → E j = E0 j := fun j o0 o1 => (hk j (by omega)).trans (hfr j o0 o1)
          refine lv_aload_n X.1 X.2.1 dX5_hang_59 rfl (lv_at hl 1 rfl) ?_
          refine x_get X hP hG_x (by omega) rfl in_X5_hang_X5 0 (by decide) (by decide +kernel) rfl rfl dX5_hang_60 ?_
          refine x_get X hP hG_n.1 (by omega) rfl in_X5_hang_X1 7 (by decide) (by decide +kernel) rfl rfl dX5_hang_63 ?_
          refine lv_iload_n X.1 X.2.1 dX5_hang_66 rfl (lv_at hl 2 rfl) ?_
          refine lv_iload_n X.1 X.2.1 dX5_hang_67 rfl (lv_at hl 3 rfl) ?_
          obtain ⟨hi15, hf⟩ := gin_of hf
          refine x_iast X hP hS hG_n.2.2.2.2.2.2 (by omega) hi15 dX5_hang_68 (fun E H locs h1 hk hP hS => ?_)
          have hG_n := Mu_set_6 hG_n h1 hk
          have hG_x := Xo_kept hG_x (fun j h8 h9 => hk j (by omega))
          have hG_p := Pa_kept hG_p (fun j h8 h9 => hk j (by omega))
          have hfr : ∀ j, (j < 1 ∨ 8 ≤ j) → (j < 8 ∨ 18 ≤ j) → E j = E0 j := fun j o0 o1 => (hk j (by omega)).trans (hfr j o0 o1)
          refine lv_iload_n X.1 X.2.1 dX5_hang_69 rfl (lv_at hl 0 rfl) ?_
          obtain rfl := Option.some.inj hf
          exact hret _ _ _ _ _ _ dX5_hang_70 rfl rfl (⟨hG_n, hG_p, hfr⟩) hP hS
        · have hf := ifp hf c13
          refine lv_bipush (v := (-2)) X.1 X.2.1 dX5_hang_45 (by decide) ?_
          obtain rfl := Option.some.inj hf
          exact hret _ _ _ _ _ _ dX5_hang_47 rfl rfl (⟨hG_n, hG_p, hfr⟩) hP hS
      · have hf := ifp hf c10
        refine lv_iconst (v := (-1)) X.1 X.2.1 dX5_hang_28 (by decide) ?_
        obtain rfl := Option.some.inj hf
        exact hret _ _ _ _ _ _ dX5_hang_29 rfl rfl (⟨hG_n, hG_p, hfr⟩) hP hS
def fX5_image   (men_n : Int32) (md_n : Int32) (day_n : Int32) (drw_n : Int32) (bu_n : Nat → Int32) (st_n : Nat → Int32) (ki_n : Nat → Int32) (we_n : Nat → Int32) (wo_n : Nat → Int32) (wr_n : Nat → Int32) (kn_p : Int32) (nx_p : Int32) (ke_p : Nat → Nat → Int32) (bu_a : Nat → Int32) (st_a : Nat → Int32) (ki_a : Nat → Int32) (we_a : Nat → Int32) (wo_a : Nat → Int32) (wr_a : Nat → Int32) (ke_q : Nat → Nat → Int32) : Option (Int32 × Int32 × Int32 × Int32 × Int32 × Int32 × (Nat → Int32) × (Nat → Int32) × (Nat → Int32) × (Nat → Int32) × (Nat → Int32) × (Nat → Int32) × Int32 × Int32 × (Nat → Nat → Int32)) := (fX1_take bu_a st_a ki_a we_a wo_a wr_a men_n md_n day_n drw_n bu_n st_n ki_n we_n wo_n wr_n).bind (fun r1 => (fX2_take ke_q kn_p nx_p ke_p).bind (fun r2 => some (1, 1, r1.1, r1.2.1, r1.2.2.1, r1.2.2.2.1, r1.2.2.2.2.1, r1.2.2.2.2.2.1, r1.2.2.2.2.2.2.1, r1.2.2.2.2.2.2.2.1, r1.2.2.2.2.2.2.2.2.1, r1.2.2.2.2.2.2.2.2.2, r2.1, r2.2.1, r2.2.2)))
theorem in_X5_image_X5 : ∀ w ∈ wsX50, w ∈ wsX5_image := by decide +kernel
set_option maxHeartbeats 4000000 in
set_option maxRecDepth 100000 in
theorem ct_X5_image {l : Launch} {D : va_G} {g : Nat → ClassId} {qa : Nat → Nat} {E0 : Nat → va_E} {img_x : Int32} {men_n : Int32} {md_n : Int32} {day_n : Int32} {drw_n : Int32} {bu_n : Nat → Int32} {st_n : Nat → Int32} {ki_n : Nat → Int32} {we_n : Nat → Int32} {wo_n : Nat → Int32} {wr_n : Nat → Int32} {kn_p : Int32} {nx_p : Int32} {ke_p : Nat → Nat → Int32} {men_a : Int32} {md_a : Int32} {day_a : Int32} {drw_a : Int32} {bu_a : Nat → Int32} {st_a : Nat → Int32} {ki_a : Nat → Int32} {we_a : Nat → Int32} {wo_a : Nat → Int32} {wr_a : Nat → Int32} {kn_q : Int32} {nx_q : Int32} {ke_q : Nat → Nat → Int32} (hG_x : Xo g qa E0 0 img_x) (hG_n : Mu g qa E0 1 men_n md_n day_n drw_n bu_n st_n ki_n we_n wo_n wr_n) (hG_p : Pa g qa E0 8 kn_p nx_p ke_p) (hG_a : Mu g qa E0 18 men_a md_a day_a drw_a bu_a st_a ki_a we_a wo_a wr_a) (hG_q : Pa g qa E0 25 kn_q nx_q ke_q) {R : (Int32 × Int32 × Int32 × Int32 × Int32 × Int32 × (Nat → Int32) × (Nat → Int32) × (Nat → Int32) × (Nat → Int32) × (Nat → Int32) × (Nat → Int32) × Int32 × Int32 × (Nat → Nat → Int32))} (hf : fX5_image men_n md_n day_n drw_n bu_n st_n ki_n we_n wo_n wr_n kn_p nx_p ke_p bu_a st_a ki_a we_a wo_a wr_a ke_q = some R) : MI l yX5_image wsX5_image 2 D g qa E0 [.ref (qa 0)] R.1 (fun E => Xo g qa E 0 R.2.1 ∧ Mu g qa E 18 R.2.2.1 R.2.2.2.1 R.2.2.2.2.1 R.2.2.2.2.2.1 R.2.2.2.2.2.2.1 R.2.2.2.2.2.2.2.1 R.2.2.2.2.2.2.2.2.1 R.2.2.2.2.2.2.2.2.2.1 R.2.2.2.2.2.2.2.2.2.2.1 R.2.2.2.2.2.2.2.2.2.2.2.1 ∧ Pa g qa E 25 R.2.2.2.2.2.2.2.2.2.2.2.2.1 R.2.2.2.2.2.2.2.2.2.2.2.2.2.1 R.2.2.2.2.2.2.2.2.2.2.2.2.2.2 ∧ ∀ j, (j < 0 ∨ 1 ≤ j) → (j < 18 ∨ 25 ≤ j) → (j < 25 ∨ 35 ≤ j) → E j = E0 j) := by
  refine MI.mk (by decide) rfl (Nat.le_of_ble_eq_true rfl) ?_
  intro p e s m args below meth c ls Q X hret hP hS hl
  have hl : lv_has ls 1 [(0, .ref (qa 0))] := hl
  have hfr : ∀ j, (j < 0 ∨ 1 ≤ j) → (j < 18 ∨ 25 ≤ j) → (j < 25 ∨ 35 ≤ j) → E0 j = E0 j := fun _ _ _ _ => rfl
  rw [fX5_image] at hf
  refine lv_aload_n X.1 X.2.1 dX5_image_0 rfl (lv_at hl 0 rfl) ?_
  refine x_get X hP hG_x (by omega) rfl in_X5_image_X5 2 (by decide) (by decide +kernel) rfl rfl dX5_image_1 ?_
  refine lv_aload_n X.1 X.2.1 dX5_image_4 rfl (lv_at hl 0 rfl) ?_
  refine x_get X hP hG_x (by omega) rfl in_X5_image_X5 0 (by decide) (by decide +kernel) rfl rfl dX5_image_5 ?_
  obtain ⟨r1, hr1, hf⟩ := bd_of hf
  refine x_callVv X hP hS hG_a.1 (by omega) rfl (n := 1) (As := [.ref (qa 1)]) (ct_X1_take (by omega) hG_a (by omega) hG_n (by omega) hr1) gX5_image_X1_take rfl (by decide +kernel) ⟨by decide, by decide⟩ rfl hl.1 rfl (Nat.le_of_ble_eq_true rfl) dX5_image_8 (fun E H locs hp hP hS => ?_)
  obtain ⟨hW_n, hk⟩ := hp
  have hG_a := hW_n
  have hG_x := Xo_kept hG_x (fun j h8 h9 => hk j (by omega))
  have hG_n := Mu_kept hG_n (fun j h8 h9 => hk j (by omega))
  have hG_p := Pa_kept hG_p (fun j h8 h9 => hk j (by omega))
  have hG_q := Pa_kept hG_q (fun j h8 h9 => hk j (by omega))
  have hfr : ∀ j, (j < 0 ∨ 1 ≤ j) → (j < 18 ∨ 25 ≤ j) → (j < 25 ∨ 35 ≤ j) → E j = E0 j := fun j o0 o1 o2 => (hk j (by omega)).trans (hfr j o0 o1 o2)
  refine lv_aload_n X.1 X.2.1 dX5_image_11 rfl (lv_at hl 0 rfl) ?_
  refine x_get X hP hG_x (by omega) rfl in_X5_image_X5 3 (by decide) (by decide +kernel) rfl rfl dX5_image_12 ?_
  refine lv_aload_n X.1 X.2.1 dX5_image_15 rfl (lv_at hl 0 rfl) ?_
  refine x_get X hP hG_x (by omega) rfl in_X5_image_X5 1 (by decide) (by decide +kernel) rfl rfl dX5_image_16 ?_
  obtain ⟨r2, hr2, hf⟩ := bd_of hf
  refine x_callVv X hP hS hG_q.1 (by omega) rfl (n := 1) (As := [.ref (qa 8)]) (ct_X2_take (by omega) hG_q (by omega) hG_p (by omega) hr2) gX5_image_X2_take rfl (by decide +kernel) ⟨by decide, by decide⟩ rfl hl.1 rfl (Nat.le_of_ble_eq_true rfl) dX5_image_19 (fun E H locs hp hP hS => ?_)
  obtain ⟨hW_p, hk⟩ := hp
  have hG_q := hW_p
  have hG_x := Xo_kept hG_x (fun j h8 h9 => hk j (by omega))
  have hG_n := Mu_kept hG_n (fun j h8 h9 => hk j (by omega))
  have hG_p := Pa_kept hG_p (fun j h8 h9 => hk j (by omega))
  have hG_a := Mu_kept hG_a (fun j h8 h9 => hk j (by omega))
  have hfr : ∀ j, (j < 0 ∨ 1 ≤ j) → (j < 18 ∨ 25 ≤ j) → (j < 25 ∨ 35 ≤ j) → E j = E0 j := fun j o0 o1 o2 => (hk j (by omega)).trans (hfr j o0 o1 o2)
  refine lv_aload_n X.1 X.2.1 dX5_image_22 rfl (lv_at hl 0 rfl) ?_
  refine lv_iconst (v := 1) X.1 X.2.1 dX5_image_23 (by decide) ?_
  refine x_put (ty := .boolean) X hP hS hG_x (by omega) rfl in_X5_image_X5 tyX5 tyX5_ok nmX5 4 (by decide) (by decide +kernel) rfl rfl (by decide +kernel) rfl rfl (Nat.le_of_ble_eq_true rfl) dX5_image_24 (fun E H locs h1 hk hP hS => ?_)
  have hG_x := Xo_set_0 hG_x h1 hk
  have hG_n := Mu_kept hG_n (fun j h8 h9 => hk j (by omega))
  have hG_p := Pa_kept hG_p (fun j h8 h9 => hk j (by omega))
  have hG_a := Mu_kept hG_a (fun j h8 h9 => hk j (by omega))
  have hG_q := Pa_kept hG_q (fun j h8 h9 => hk j (by omega))
  have hfr : ∀ j, (j < 0 ∨ 1 ≤ j) → (j < 18 ∨ 25 ≤ j) → (j < 25 ∨ 35 ≤ j) → E j = E0 j := fun j o0 o1 o2 => (hk j (by omega)).trans (hfr j o0 o1 o2)
  refine lv_iconst (v := 1) X.1 X.2.1 dX5_image_27 (by decide) ?_
  obtain rfl := Option.some.inj hf
  exact hret _ _ _ _ _ _ dX5_image_28 rfl rfl (⟨hG_x, hG_a, hG_q, hfr⟩) hP hS
def fX5_item (p1 : Int32) (p2 : Int32) (p3 : Int32) (p4 : Int64)  (th_r : Nat → Int32) (lan_r : Nat → Int32) (siz_r : Nat → Int32) (itm_r : Nat → Nat → Int64) : Option (Int32 × (Nat → Nat → Int64)) := (fX5_isSheet p1).bind (fun r1 => if r1 = 0 then (some ((-1), itm_r)) else ((fX5_isLane p2).bind (fun r3 => if r3 = 0 then (some ((-1), itm_r)) else (gin p1 4 ((fX3_refuses p2 p3 1 (th_r (Int32.toNatClampNeg p1)) (lan_r (Int32.toNatClampNeg p1)) (siz_r (Int32.toNatClampNeg p1))).bind (fun r7 => if r7 = 0 then (gin p1 4 ((fX3_put p3 p4 (lan_r (Int32.toNatClampNeg p1)) (itm_r (Int32.toNatClampNeg p1))).bind (fun r11 => some (1, va_up itm_r (Int32.toNatClampNeg p1) r11)))) else (some (r7, itm_r))))))))
theorem in_X5_item_X5 : ∀ w ∈ wsX50, w ∈ wsX5_item := by decide +kernel
set_option maxHeartbeats 4000000 in
set_option maxRecDepth 100000 in
theorem ct_X5_item {l : Launch} {D : va_G} {g : Nat → ClassId} {qa : Nat → Nat} {E0 : Nat → va_E} {p1 : Int32} {p2 : Int32} {p3 : Int32} {p4 : Int64} {img_x : Int32} {th_r : Nat → Int32} {lan_r : Nat → Int32} {siz_r : Nat → Int32} {itm_r : Nat → Nat → Int64} (hG_x : Xo g qa E0 0 img_x) (hG_r : Rs g qa E0 55 th_r lan_r siz_r itm_r) {R : (Int32 × (Nat → Nat → Int64))} (hf : fX5_item p1 p2 p3 p4 th_r lan_r siz_r itm_r = some R) : MI l yX5_item wsX5_item 2 D g qa E0 [.ref (qa 0), .int p1, .int p2, .int p3, .long p4] R.1 (fun E => Rs g qa E 55 th_r lan_r siz_r R.2 ∧ ∀ j, (j < 55 ∨ 64 ≤ j) → E j = E0 j) := by
  refine MI.mk (by decide) rfl (Nat.le_of_ble_eq_true rfl) ?_
  intro p e s m args below meth c ls Q X hret hP hS hl
  have hl : lv_has ls 7 [(0, .ref (qa 0)), (1, .int p1), (2, .int p2), (3, .int p3), (4, .long p4)] := hl
  have hfr : ∀ j, (j < 55 ∨ 64 ≤ j) → E0 j = E0 j := fun _ _ => rfl
  rw [fX5_item] at hf
  refine lv_iload_n X.1 X.2.1 dX5_item_0 rfl (lv_at hl 1 rfl) ?_
  obtain ⟨r1, hr1, hf⟩ := bd_of hf
  refine x_rdSi X hP hS (index := 235) (n := 1) (As := [.int p1]) (ct_X5_isSheet  hr1) ggX5_item_X5_isSheet (by decide +kernel) (by decide +kernel) (by decide +kernel) rfl (by decide +kernel) ⟨by decide, by decide⟩ rfl hl.1 rfl (Nat.le_of_ble_eq_true rfl) dX5_item_1 (fun H locs hP hS => ?_)
  refine lv_if_eq (tgt := 14) X.1 X.2.1 dX5_item_4 (by decide) (fun c2 => ?_) (fun c2 => ?_)
  · have hf := ifp hf c2
    refine lv_iconst (v := (-1)) X.1 X.2.1 dX5_item_14 (by decide) ?_
    obtain rfl := Option.some.inj hf
    exact hret _ _ _ _ _ _ dX5_item_15 rfl rfl (⟨hG_r, hfr⟩) hP hS
  · have hf := ifn hf c2
    refine lv_iload_n X.1 X.2.1 dX5_item_7 rfl (lv_at hl 2 rfl) ?_
    obtain ⟨r3, hr3, hf⟩ := bd_of hf
    refine x_rdSi X hP hS (index := 238) (n := 1) (As := [.int p2]) (ct_X5_isLane  hr3) ggX5_item_X5_isLane (by decide +kernel) (by decide +kernel) (by decide +kernel) rfl (by decide +kernel) ⟨by decide, by decide⟩ rfl hl.1 rfl (Nat.le_of_ble_eq_true rfl) dX5_item_8 (fun H locs hP hS => ?_)
    refine lv_if_ne (tgt := 16) X.1 X.2.1 dX5_item_11 (by decide) (fun c4 => ?_) (fun c4 => ?_)
    · have hf := ifn hf c4
      refine lv_aload_n X.1 X.2.1 dX5_item_16 rfl (lv_at hl 0 rfl) ?_
      refine x_get X hP hG_x (by omega) rfl in_X5_item_X5 8 (by decide) (by decide +kernel) rfl rfl dX5_item_17 ?_
      refine lv_iload_n X.1 X.2.1 dX5_item_20 rfl (lv_at hl 1 rfl) ?_
      obtain ⟨hi5, hf⟩ := gin_of hf
      have hj6 := in_lt hi5
      refine x_aald X hP 4 rfl rfl hG_r.1 (by omega) hi5 dX5_item_21 ?_
      refine lv_iload_n X.1 X.2.1 dX5_item_22 rfl (lv_at hl 2 rfl) ?_
      refine lv_iload_n X.1 X.2.1 dX5_item_23 rfl (lv_at hl 3 rfl) ?_
      refine lv_iconst (v := 1) X.1 X.2.1 dX5_item_24 (by decide) ?_
      obtain ⟨r7, hr7, hf⟩ := bd_of hf
      refine x_rdVi X hP hS (hG_r.2.1 _ hj6) (by omega) rfl (n := 3) (As := [.int p2, .int p3, .int 1]) (ct_X3_refuses (by omega) (Ro_of hG_r hj6) hr7) gX5_item_X3_refuses rfl (by decide +kernel) ⟨by decide, by decide⟩ rfl hl.1 rfl (Nat.le_of_ble_eq_true rfl) dX5_item_25 (fun H locs hP hS => ?_)
      refine lv_istore (lv' := [(6, .int r7), (0, .ref (qa 0)), (1, .int p1), (2, .int p2), (3, .int p3), (4, .long p4)]) X.1 X.2.1 dX5_item_28 hl (by decide) rfl (fun ls hl => ?_)
      refine lv_iload X.1 X.2.1 dX5_item_30 (lv_at hl 0 rfl) ?_
      refine lv_if_eq (tgt := 38) X.1 X.2.1 dX5_item_32 (by decide) (fun c8 => ?_) (fun c8 => ?_)
      · have hf := ifp hf c8
        refine lv_aload_n X.1 X.2.1 dX5_item_38 rfl (lv_at hl 1 rfl) ?_
        refine x_get X hP hG_x (by omega) rfl in_X5_item_X5 8 (by decide) (by decide +kernel) rfl rfl dX5_item_39 ?_
        refine lv_iload_n X.1 X.2.1 dX5_item_42 rfl (lv_at hl 2 rfl) ?_
        obtain ⟨hi9, hf⟩ := gin_of hf
        have hj10 := in_lt hi9
        refine x_aald X hP 4 rfl rfl hG_r.1 (by omega) hi9 dX5_item_43 ?_
        refine lv_iload_n X.1 X.2.1 dX5_item_44 rfl (lv_at hl 4 rfl) ?_
        refine lv_lload X.1 X.2.1 dX5_item_45 (lv_at hl 5 rfl) ?_
        obtain ⟨r11, hr11, hf⟩ := bd_of hf
        refine x_callVv X hP hS (hG_r.2.1 _ hj10) (by omega) rfl (n := 2) (As := [.int p3, .long p4]) (ct_X3_put (by omega) (Ro_of hG_r hj10) hr11) gX5_item_X3_put rfl (by decide +kernel) ⟨by decide, by decide⟩ rfl hl.1 rfl (Nat.le_of_ble_eq_true rfl) dX5_item_47 (fun E H locs hp hP hS => ?_)
        obtain ⟨hW_r, hk⟩ := hp
        have hG_r := Rs_put hG_r hj10 hW_r hk
        try simp only [va_up_id] at hG_r
        have hG_x := Xo_kept hG_x (fun j h8 h9 => hk j (by omega))
        have hfr : ∀ j, (j < 55 ∨ 64 ≤ j) → E j = E0 j := fun j o0 => (hk j (by omega)).trans (hfr j o0)
        refine lv_iconst (v := 1) X.1 X.2.1 dX5_item_50 (by decide) ?_
        obtain rfl := Option.some.inj hf
        exact hret _ _ _ _ _ _ dX5_item_51 rfl rfl (⟨hG_r, hfr⟩) hP hS
      · have hf := ifn hf c8
        refine lv_iload X.1 X.2.1 dX5_item_35 (lv_at hl 0 rfl) ?_
        obtain rfl := Option.some.inj hf
        exact hret _ _ _ _ _ _ dX5_item_37 rfl rfl (⟨hG_r, hfr⟩) hP hS
    · have hf := ifp hf c4
      refine lv_iconst (v := (-1)) X.1 X.2.1 dX5_item_14 (by decide) ?_
      obtain rfl := Option.some.inj hf
      exact hret _ _ _ _ _ _ dX5_item_15 rfl rfl (⟨hG_r, hfr⟩) hP hS
def fX5_man (p1 : Int32)  (men_n : Int32) (bu_n : Nat → Int32) (st_n : Nat → Int32) (kn_p : Int32) : Option (Int32 × Int32 × (Nat → Int32) × (Nat → Int32) × Int32) := if p1 < 1 then (some ((-1), men_n, bu_n, st_n, kn_p)) else (if p1 ≤ 60 then (if men_n < 5 then ((fX2_forget).bind (fun r4 => (fX1_addMan p1 p1 men_n bu_n st_n).bind (fun r5 => some (r5.1, r5.2.1, r5.2.2.1, r5.2.2.2, r4)))) else (some ((-3), men_n, bu_n, st_n, kn_p))) else (some ((-1), men_n, bu_n, st_n, kn_p)))
theorem in_X5_man_X1 : ∀ w ∈ wsX10, w ∈ wsX5_man := by decide +kernel
theorem in_X5_man_X5 : ∀ w ∈ wsX50, w ∈ wsX5_man := by decide +kernel
set_option maxHeartbeats 4000000 in
set_option maxRecDepth 100000 in
theorem ct_X5_man {l : Launch} {D : va_G} {g : Nat → ClassId} {qa : Nat → Nat} {E0 : Nat → va_E} {p1 : Int32} {img_x : Int32} {men_n : Int32} {md_n : Int32} {day_n : Int32} {drw_n : Int32} {bu_n : Nat → Int32} {st_n : Nat → Int32} {ki_n : Nat → Int32} {we_n : Nat → Int32} {wo_n : Nat → Int32} {wr_n : Nat → Int32} {kn_p : Int32} {nx_p : Int32} {ke_p : Nat → Nat → Int32} (hG_x : Xo g qa E0 0 img_x) (hG_n : Mu g qa E0 1 men_n md_n day_n drw_n bu_n st_n ki_n we_n wo_n wr_n) (hG_p : Pa g qa E0 8 kn_p nx_p ke_p) {R : (Int32 × Int32 × (Nat → Int32) × (Nat → Int32) × Int32)} (hf : fX5_man p1 men_n bu_n st_n kn_p = some R) : MI l yX5_man wsX5_man 1 D g qa E0 [.ref (qa 0), .int p1] R.1 (fun E => Mu g qa E 1 R.2.1 md_n day_n drw_n R.2.2.1 R.2.2.2.1 ki_n we_n wo_n wr_n ∧ Pa g qa E 8 R.2.2.2.2 nx_p ke_p ∧ ∀ j, (j < 1 ∨ 8 ≤ j) → (j < 8 ∨ 18 ≤ j) → E j = E0 j) := by
  refine MI.mk (by decide) rfl (Nat.le_of_ble_eq_true rfl) ?_
  intro p e s m args below meth c ls Q X hret hP hS hl
  have hl : lv_has ls 2 [(0, .ref (qa 0)), (1, .int p1)] := hl
  have hfr : ∀ j, (j < 1 ∨ 8 ≤ j) → (j < 8 ∨ 18 ≤ j) → E0 j = E0 j := fun _ _ _ => rfl
  rw [fX5_man] at hf
  refine lv_iload_n X.1 X.2.1 dX5_man_0 rfl (lv_at hl 1 rfl) ?_
  refine lv_iconst (v := 1) X.1 X.2.1 dX5_man_1 (by decide) ?_
  refine lv_icmp_lt (tgt := 11) X.1 X.2.1 dX5_man_2 (by decide) (fun c1 => ?_) (fun c1 => ?_)
  · have hf := ifp hf c1
    refine lv_iconst (v := (-1)) X.1 X.2.1 dX5_man_11 (by decide) ?_
    obtain rfl := Option.some.inj hf
    exact hret _ _ _ _ _ _ dX5_man_12 rfl rfl (⟨hG_n, hG_p, hfr⟩) hP hS
  · have hf := ifn hf c1
    refine lv_iload_n X.1 X.2.1 dX5_man_5 rfl (lv_at hl 1 rfl) ?_
    refine lv_bipush (v := 60) X.1 X.2.1 dX5_man_6 (by decide) ?_
    refine lv_icmp_le (tgt := 13) X.1 X.2.1 dX5_man_8 (by decide) (fun c2 => ?_) (fun c2 => ?_)
    · have hf := ifp hf c2
      refine lv_aload_n X.1 X.2.1 dX5_man_13 rfl (lv_at hl 0 rfl) ?_
      refine x_get X hP hG_x (by omega) rfl in_X5_man_X5 0 (by decide) (by decide +kernel) rfl rfl dX5_man_14 ?_
      refine x_get X hP hG_n.1 (by omega) rfl in_X5_man_X1 0 (by decide) (by decide +kernel) rfl rfl dX5_man_17 ?_
      refine lv_iconst (v := 5) X.1 X.2.1 dX5_man_20 (by decide) ?_
      refine lv_icmp_lt (tgt := 27) X.1 X.2.1 dX5_man_21 (by decide) (fun c3 => ?_) (fun c3 => ?_)
      · have hf := ifp hf c3
        refine lv_aload_n X.1 X.2.1 dX5_man_27 rfl (lv_at hl 0 rfl) ?_
        refine x_get X hP hG_x (by omega) rfl in_X5_man_X5 1 (by decide) (by decide +kernel) rfl rfl dX5_man_28 ?_
        obtain ⟨r4, hr4, hf⟩ := bd_of hf
        refine x_callVv X hP hS hG_p.1 (by omega) rfl (n := 0) (As := []) (ct_X2_forget (by omega) hG_p hr4) gX5_man_X2_forget rfl (by decide +kernel) ⟨by decide, by decide⟩ rfl hl.1 rfl (Nat.le_of_ble_eq_true rfl) dX5_man_31 (fun E H locs hp hP hS => ?_)
        obtain ⟨hW_p, hk⟩ := hp
        have hG_p := hW_p
        have hG_x := Xo_kept hG_x (fun j h8 h9 => hk j (by omega))
        have hG_n := Mu_kept hG_n (fun j h8 h9 => hk j (by omega))
        have hfr : ∀ j, (j < 1 ∨ 8 ≤ j) → (j < 8 ∨ 18 ≤ j) → E j = E0 j := fun j o0 o1 => (hk j (by omega)).trans (hfr j o0 o1)
        refine lv_aload_n X.1 X.2.1 dX5_man_34 rfl (lv_at hl 0 rfl) ?_
        refine x_get X hP hG_x (by omega) rfl in_X5_man_X5 0 (by decide) (by decide +kernel) rfl rfl dX5_man_35 ?_
        refine lv_iload_n X.1 X.2.1 dX5_man_38 rfl (lv_at hl 1 rfl) ?_
        refine lv_iload_n X.1 X.2.1 dX5_man_39 rfl (lv_at hl 1 rfl) ?_
        obtain ⟨r5, hr5, hf⟩ := bd_of hf
        refine x_callVi X hP hS hG_n.1 (by omega) rfl (n := 2) (As := [.int p1, .int p1]) (ct_X1_addMan (by omega) hG_n hr5) gX5_man_X1_addMan rfl (by decide +kernel) ⟨by decide, by decide⟩ rfl hl.1 rfl (Nat.le_of_ble_eq_true rfl) dX5_man_40 (fun E H locs hp hP hS => ?_)
        obtain ⟨hW_n, hk⟩ := hp
        have hG_n := hW_n
        have hG_x := Xo_kept hG_x (fun j h8 h9 => hk j (by omega))
        have hG_p := Pa_kept hG_p (fun j h8 h9 => hk j (by omega))
        have hfr : ∀ j, (j < 1 ∨ 8 ≤ j) → (j < 8 ∨ 18 ≤ j) → E j = E0 j := fun j o0 o1 => (hk j (by omega)).trans (hfr j o0 o1)
        obtain rfl := Option.some.inj hf
        exact hret _ _ _ _ _ _ dX5_man_43 rfl rfl (⟨hG_n, hG_p, hfr⟩) hP hS
      · have hf := ifn hf c3
        refine lv_bipush (v := (-3)) X.1 X.2.1 dX5_man_24 (by decide) ?_
        obtain rfl := Option.some.inj hf
        exact hret _ _ _ _ _ _ dX5_man_26 rfl rfl (⟨hG_n, hG_p, hfr⟩) hP hS
    · have hf := ifn hf c2
      refine lv_iconst (v := (-1)) X.1 X.2.1 dX5_man_11 (by decide) ?_
      obtain rfl := Option.some.inj hf
      exact hret _ _ _ _ _ _ dX5_man_12 rfl rfl (⟨hG_n, hG_p, hfr⟩) hP hS
def fX5_medal (p1 : Int32) (p2 : Int32) (p3 : Int32)  (men_n : Int32) (md_n : Int32) (ki_n : Nat → Int32) (we_n : Nat → Int32) (wo_n : Nat → Int32) (wr_n : Nat → Int32) (kn_p : Int32) : Option (Int32 × Int32 × (Nat → Int32) × (Nat → Int32) × (Nat → Int32) × (Nat → Int32) × Int32) := if p1 < 0 then (some ((-1), md_n, ki_n, we_n, wo_n, wr_n, kn_p)) else (if 4 < p1 then (some ((-1), md_n, ki_n, we_n, wo_n, wr_n, kn_p)) else (if p2 < 1 then (some ((-1), md_n, ki_n, we_n, wo_n, wr_n, kn_p)) else (if 20 < p2 then (some ((-1), md_n, ki_n, we_n, wo_n, wr_n, kn_p)) else ((fX1_hasMan p3 men_n).bind (fun r5 => if r5 = 0 then (some ((-1), md_n, ki_n, we_n, wo_n, wr_n, kn_p)) else (if md_n < 6 then ((fX2_forget).bind (fun r8 => (fX1_addMedal p1 p2 p3 (-4) md_n ki_n we_n wo_n wr_n).bind (fun r9 => some (r9.1, r9.2.1, r9.2.2.1, r9.2.2.2.1, r9.2.2.2.2.1, r9.2.2.2.2.2, r8)))) else (some ((-3), md_n, ki_n, we_n, wo_n, wr_n, kn_p))))))))
theorem in_X5_medal_X1 : ∀ w ∈ wsX10, w ∈ wsX5_medal := by decide +kernel
theorem in_X5_medal_X5 : ∀ w ∈ wsX50, w ∈ wsX5_medal := by decide +kernel
set_option maxHeartbeats 4000000 in
set_option maxRecDepth 100000 in
theorem ct_X5_medal {l : Launch} {D : va_G} {g : Nat → ClassId} {qa : Nat → Nat} {E0 : Nat → va_E} {p1 : Int32} {p2 : Int32} {p3 : Int32} {img_x : Int32} {men_n : Int32} {md_n : Int32} {day_n : Int32} {drw_n : Int32} {bu_n : Nat → Int32} {st_n : Nat → Int32} {ki_n : Nat → Int32} {we_n : Nat → Int32} {wo_n : Nat → Int32} {wr_n : Nat → Int32} {kn_p : Int32} {nx_p : Int32} {ke_p : Nat → Nat → Int32} (hG_x : Xo g qa E0 0 img_x) (hG_n : Mu g qa E0 1 men_n md_n day_n drw_n bu_n st_n ki_n we_n wo_n wr_n) (hG_p : Pa g qa E0 8 kn_p nx_p ke_p) {R : (Int32 × Int32 × (Nat → Int32) × (Nat → Int32) × (Nat → Int32) × (Nat → Int32) × Int32)} (hf : fX5_medal p1 p2 p3 men_n md_n ki_n we_n wo_n wr_n kn_p = some R) : MI l yX5_medal wsX5_medal 1 D g qa E0 [.ref (qa 0), .int p1, .int p2, .int p3] R.1 (fun E => Mu g qa E 1 men_n R.2.1 day_n drw_n bu_n st_n R.2.2.1 R.2.2.2.1 R.2.2.2.2.1 R.2.2.2.2.2.1 ∧ Pa g qa E 8 R.2.2.2.2.2.2 nx_p ke_p ∧ ∀ j, (j < 1 ∨ 8 ≤ j) → (j < 8 ∨ 18 ≤ j) → E j = E0 j) := by
  refine MI.mk (by decide) rfl (Nat.le_of_ble_eq_true rfl) ?_
  intro p e s m args below meth c ls Q X hret hP hS hl
  have hl : lv_has ls 4 [(0, .ref (qa 0)), (1, .int p1), (2, .int p2), (3, .int p3)] := hl
  have hfr : ∀ j, (j < 1 ∨ 8 ≤ j) → (j < 8 ∨ 18 ≤ j) → E0 j = E0 j := fun _ _ _ => rfl
  rw [fX5_medal] at hf
  refine lv_iload_n X.1 X.2.1 dX5_medal_0 rfl (lv_at hl 1 rfl) ?_
  refine lv_if_lt (tgt := 31) X.1 X.2.1 dX5_medal_1 (by decide) (fun c1 => ?_) (fun c1 => ?_)
  · have hf := ifp hf c1
    refine lv_iconst (v := (-1)) X.1 X.2.1 dX5_medal_31 (by decide) ?_
    obtain rfl := Option.some.inj hf
    exact hret _ _ _ _ _ _ dX5_medal_32 rfl rfl (⟨hG_n, hG_p, hfr⟩) hP hS
  · have hf := ifn hf c1
    refine lv_iload_n X.1 X.2.1 dX5_medal_4 rfl (lv_at hl 1 rfl) ?_
    refine lv_iconst (v := 4) X.1 X.2.1 dX5_medal_5 (by decide) ?_
    refine lv_icmp_gt (tgt := 31) X.1 X.2.1 dX5_medal_6 (by decide) (fun c2 => ?_) (fun c2 => ?_)
    · have hf := ifp hf c2
      refine lv_iconst (v := (-1)) X.1 X.2.1 dX5_medal_31 (by decide) ?_
      obtain rfl := Option.some.inj hf
      exact hret _ _ _ _ _ _ dX5_medal_32 rfl rfl (⟨hG_n, hG_p, hfr⟩) hP hS
    · have hf := ifn hf c2
      refine lv_iload_n X.1 X.2.1 dX5_medal_9 rfl (lv_at hl 2 rfl) ?_
      refine lv_iconst (v := 1) X.1 X.2.1 dX5_medal_10 (by decide) ?_
      refine lv_icmp_lt (tgt := 31) X.1 X.2.1 dX5_medal_11 (by decide) (fun c3 => ?_) (fun c3 => ?_)
      · have hf := ifp hf c3
        refine lv_iconst (v := (-1)) X.1 X.2.1 dX5_medal_31 (by decide) ?_
        obtain rfl := Option.some.inj hf
        exact hret _ _ _ _ _ _ dX5_medal_32 rfl rfl (⟨hG_n, hG_p, hfr⟩) hP hS
      · have hf := ifn hf c3
        refine lv_iload_n X.1 X.2.1 dX5_medal_14 rfl (lv_at hl 2 rfl) ?_
        refine lv_bipush (v := 20) X.1 X.2.1 dX5_medal_15 (by decide) ?_
        refine lv_icmp_gt (tgt := 31) X.1 X.2.1 dX5_medal_17 (by decide) (fun c4 => ?_) (fun c4 => ?_)
        · have hf := ifp hf c4
          refine lv_iconst (v := (-1)) X.1 X.2.1 dX5_medal_31 (by decide) ?_
          obtain rfl := Option.some.inj hf
          exact hret _ _ _ _ _ _ dX5_medal_32 rfl rfl (⟨hG_n, hG_p, hfr⟩) hP hS
        · have hf := ifn hf c4
          refine lv_aload_n X.1 X.2.1 dX5_medal_20 rfl (lv_at hl 0 rfl) ?_
          refine x_get X hP hG_x (by omega) rfl in_X5_medal_X5 0 (by decide) (by decide +kernel) rfl rfl dX5_medal_21 ?_
          refine lv_iload_n X.1 X.2.1 dX5_medal_24 rfl (lv_at hl 3 rfl) ?_
          obtain ⟨r5, hr5, hf⟩ := bd_of hf
          refine x_rdVi X hP hS hG_n.1 (by omega) rfl (n := 1) (As := [.int p3]) (ct_X1_hasMan (by omega) hG_n hr5) gX5_medal_X1_hasMan rfl (by decide +kernel) ⟨by decide, by decide⟩ rfl hl.1 rfl (Nat.le_of_ble_eq_true rfl) dX5_medal_25 (fun H locs hP hS => ?_)
          refine lv_if_ne (tgt := 33) X.1 X.2.1 dX5_medal_28 (by decide) (fun c6 => ?_) (fun c6 => ?_)
          · have hf := ifn hf c6
            refine lv_aload_n X.1 X.2.1 dX5_medal_33 rfl (lv_at hl 0 rfl) ?_
            refine x_get X hP hG_x (by omega) rfl in_X5_medal_X5 0 (by decide) (by decide +kernel) rfl rfl dX5_medal_34 ?_
            refine x_get X hP hG_n.1 (by omega) rfl in_X5_medal_X1 3 (by decide) (by decide +kernel) rfl rfl dX5_medal_37 ?_
            refine lv_bipush (v := 6) X.1 X.2.1 dX5_medal_40 (by decide) ?_
            refine lv_icmp_lt (tgt := 48) X.1 X.2.1 dX5_medal_42 (by decide) (fun c7 => ?_) (fun c7 => ?_)
            · have hf := ifp hf c7
              refine lv_aload_n X.1 X.2.1 dX5_medal_48 rfl (lv_at hl 0 rfl) ?_
              refine x_get X hP hG_x (by omega) rfl in_X5_medal_X5 1 (by decide) (by decide +kernel) rfl rfl dX5_medal_49 ?_
              obtain ⟨r8, hr8, hf⟩ := bd_of hf
              refine x_callVv X hP hS hG_p.1 (by omega) rfl (n := 0) (As := []) (ct_X2_forget (by omega) hG_p hr8) gX5_medal_X2_forget rfl (by decide +kernel) ⟨by decide, by decide⟩ rfl hl.1 rfl (Nat.le_of_ble_eq_true rfl) dX5_medal_52 (fun E H locs hp hP hS => ?_)
              obtain ⟨hW_p, hk⟩ := hp
              have hG_p := hW_p
              have hG_x := Xo_kept hG_x (fun j h8 h9 => hk j (by omega))
              have hG_n := Mu_kept hG_n (fun j h8 h9 => hk j (by omega))
              have hfr : ∀ j, (j < 1 ∨ 8 ≤ j) → (j < 8 ∨ 18 ≤ j) → E j = E0 j := fun j o0 o1 => (hk j (by omega)).trans (hfr j o0 o1)
              refine lv_aload_n X.1 X.2.1 dX5_medal_55 rfl (lv_at hl 0 rfl) ?_
              refine x_get X hP hG_x (by omega) rfl in_X5_medal_X5 0 (by decide) (by decide +kernel) rfl rfl dX5_medal_56 ?_
              refine lv_iload_n X.1 X.2.1 dX5_medal_59 rfl (lv_at hl 1 rfl) ?_
              refine lv_iload_n X.1 X.2.1 dX5_medal_60 rfl (lv_at hl 2 rfl) ?_
              refine lv_iload_n X.1 X.2.1 dX5_medal_61 rfl (lv_at hl 3 rfl) ?_
              refine lv_bipush (v := (-4)) X.1 X.2.1 dX5_medal_62 (by decide) ?_
              obtain ⟨r9, hr9, hf⟩ := bd_of hf
              refine x_callVi X hP hS hG_n.1 (by omega) rfl (n := 4) (As := [.int p1, .int p2, .int p3, .int (-4)]) (ct_X1_addMedal (by omega) hG_n hr9) gX5_medal_X1_addMedal rfl (by decide +kernel) ⟨by decide, by decide⟩ rfl hl.1 rfl (Nat.le_of_ble_eq_true rfl) dX5_medal_64 (fun E H locs hp hP hS => ?_)
              obtain ⟨hW_n, hk⟩ := hp
              have hG_n := hW_n
              have hG_x := Xo_kept hG_x (fun j h8 h9 => hk j (by omega))
              have hG_p := Pa_kept hG_p (fun j h8 h9 => hk j (by omega))
              have hfr : ∀ j, (j < 1 ∨ 8 ≤ j) → (j < 8 ∨ 18 ≤ j) → E j = E0 j := fun j o0 o1 => (hk j (by omega)).trans (hfr j o0 o1)
              obtain rfl := Option.some.inj hf
              exact hret _ _ _ _ _ _ dX5_medal_67 rfl rfl (⟨hG_n, hG_p, hfr⟩) hP hS
            · have hf := ifn hf c7
              refine lv_bipush (v := (-3)) X.1 X.2.1 dX5_medal_45 (by decide) ?_
              obtain rfl := Option.some.inj hf
              exact hret _ _ _ _ _ _ dX5_medal_47 rfl rfl (⟨hG_n, hG_p, hfr⟩) hP hS
          · have hf := ifp hf c6
            refine lv_iconst (v := (-1)) X.1 X.2.1 dX5_medal_31 (by decide) ?_
            obtain rfl := Option.some.inj hf
            exact hret _ _ _ _ _ _ dX5_medal_32 rfl rfl (⟨hG_n, hG_p, hfr⟩) hP hS
def bX5_staysUpright_6 (p2 : Int32) (p3 : Int32) (p4 : Int32) (p5 : Int32) (K1 : ((Int32 × Int32)) → Option Int32) : ((Int32 × Int32)) → Option Int32
  | (v5_1, v6_1) => if p5 < v6_1 then (some 1) else (if (v6_1 - v6_1 / 2 * 2) = 0 then (if p3 ≤ v5_1 then ((fX5_strengthNext v5_1 p2 p3).bind (fun r8 => nm (v6_1 + 1) (fun x9 => K1 (r8, x9)))) else (some 0)) else (if p4 ≤ v5_1 then ((fX5_strengthNext v5_1 p2 p4).bind (fun r5 => nm (v6_1 + 1) (fun x6 => K1 (r5, x6)))) else (some 0)))
def fX5_staysUpright (p1 : Int32) (p2 : Int32) (p3 : Int32) (p4 : Int32) (p5 : Int32)   : Option Int32 := lp (bX5_staysUpright_6 p2 p3 p4 p5) FU (p1, 0)
set_option maxHeartbeats 4000000 in
set_option maxRecDepth 100000 in
theorem ct_X5_staysUpright {l : Launch} {D : va_G} {g : Nat → ClassId} {qa : Nat → Nat} {E0 : Nat → va_E} {p1 : Int32} {p2 : Int32} {p3 : Int32} {p4 : Int32} {p5 : Int32} {R : Int32} (hf : fX5_staysUpright p1 p2 p3 p4 p5 = some R) : MI l yX5_staysUpright wsX5_staysUpright 2 D g qa E0 [.int p1, .int p2, .int p3, .int p4, .int p5] R (fun E => E = E0) := by
  refine MI.mk (by decide) rfl (Nat.le_of_ble_eq_true rfl) ?_
  intro p e s m args below meth c ls Q X hret hP hS hl
  have hl : lv_has ls 8 [(0, .int p1), (1, .int p2), (2, .int p3), (3, .int p4), (4, .int p5)] := hl
  rw [fX5_staysUpright] at hf
  refine lv_iload_n X.1 X.2.1 dX5_staysUpright_0 rfl (lv_at hl 0 rfl) ?_
  refine lv_istore (lv' := [(5, .int p1), (0, .int p1), (1, .int p2), (2, .int p3), (3, .int p4), (4, .int p5)]) X.1 X.2.1 dX5_staysUpright_1 hl (by decide) rfl (fun ls hl => ?_)
  refine lv_iconst (v := 0) X.1 X.2.1 dX5_staysUpright_3 (by decide) ?_
  refine lv_istore (lv' := [(6, .int 0), (5, .int p1), (0, .int p1), (1, .int p2), (2, .int p3), (3, .int p4), (4, .int p5)]) X.1 X.2.1 dX5_staysUpright_4 hl (by decide) rfl (fun ls hl => ?_)
  have lp1 : ∀ (n1 : Nat) (v5_1 : Int32) (v6_1 : Int32) (H : Heap) (locs : List Loc) (ls : Array Slot), lp (bX5_staysUpright_6 p2 p3 p4 p5) n1 (v5_1, v6_1) = some R → va_P D vwCl (WD qa E0) H → va_S (gA qa s.heap.size) s.heap H locs → lv_has ls 8 [(0, .int p1), (1, .int p2), (2, .int p3), (3, .int p4), (4, .int p5), (5, .int v5_1), (6, .int v6_1)] → W p l e (rmf 2) s m args below meth c H locs 0 0 Q (F0 m 6 ls []) := by
    intro n1
    induction n1 with
    | zero =>
      intro v5_1 v6_1 H locs ls hf
      exact absurd hf (by intro h; cases h)
    | succ n1 ih1 =>
      intro v5_1 v6_1 H locs ls hf hP hS hl
      have hf : bX5_staysUpright_6 p2 p3 p4 p5 (lp (bX5_staysUpright_6 p2 p3 p4 p5) n1) (v5_1, v6_1) = some R := hf
      rw [bX5_staysUpright_6] at hf
      refine lv_iload X.1 X.2.1 dX5_staysUpright_6 (lv_at hl 6 rfl) ?_
      refine lv_iload X.1 X.2.1 dX5_staysUpright_8 (lv_at hl 4 rfl) ?_
      refine lv_icmp_gt (tgt := 52) X.1 X.2.1 dX5_staysUpright_10 (by decide) (fun c2 => ?_) (fun c2 => ?_)
      · have hf := ifp hf c2
        refine lv_iconst (v := 1) X.1 X.2.1 dX5_staysUpright_52 (by decide) ?_
        obtain rfl := Option.some.inj hf
        exact hret _ _ _ _ _ _ dX5_staysUpright_53 rfl rfl (rfl) hP hS
      · have hf := ifn hf c2
        refine lv_iload X.1 X.2.1 dX5_staysUpright_13 (lv_at hl 6 rfl) ?_
        refine lv_iconst (v := 2) X.1 X.2.1 dX5_staysUpright_15 (by decide) ?_
        refine lv_irem X.1 X.2.1 dX5_staysUpright_16 (by decide) ?_
        refine lv_if_ne (tgt := 24) X.1 X.2.1 dX5_staysUpright_17 (by decide) (fun c3 => ?_) (fun c3 => ?_)
        · have hf := ifn hf c3
          refine lv_iload_n X.1 X.2.1 dX5_staysUpright_24 rfl (lv_at hl 3 rfl) ?_
          refine lv_istore (lv' := [(7, .int p4), (0, .int p1), (1, .int p2), (2, .int p3), (3, .int p4), (4, .int p5), (5, .int v5_1), (6, .int v6_1)]) X.1 X.2.1 dX5_staysUpright_25 hl (by decide) rfl (fun ls hl => ?_)
          refine lv_iload X.1 X.2.1 dX5_staysUpright_27 (lv_at hl 0 rfl) ?_
          refine lv_iload X.1 X.2.1 dX5_staysUpright_29 (lv_at hl 6 rfl) ?_
          refine lv_icmp_le (tgt := 36) X.1 X.2.1 dX5_staysUpright_31 (by decide) (fun c4 => ?_) (fun c4 => ?_)
          · have hf := ifp hf c4
            refine lv_iload X.1 X.2.1 dX5_staysUpright_36 (lv_at hl 6 rfl) ?_
            refine lv_iload_n X.1 X.2.1 dX5_staysUpright_38 rfl (lv_at hl 2 rfl) ?_
            refine lv_iload X.1 X.2.1 dX5_staysUpright_39 (lv_at hl 0 rfl) ?_
            obtain ⟨r5, hr5, hf⟩ := bd_of hf
            refine x_rdSi X hP hS (index := 282) (n := 3) (As := [.int v5_1, .int p2, .int p4]) (ct_X5_strengthNext  hr5) ggX5_staysUpright_X5_strengthNext (by decide +kernel) (by decide +kernel) (by decide +kernel) rfl (by decide +kernel) ⟨by decide, by decide⟩ rfl hl.1 rfl (Nat.le_of_ble_eq_true rfl) dX5_staysUpright_41 (fun H locs hP hS => ?_)
            refine lv_istore (lv' := [(5, .int r5), (7, .int p4), (0, .int p1), (1, .int p2), (2, .int p3), (3, .int p4), (4, .int p5), (6, .int v6_1)]) X.1 X.2.1 dX5_staysUpright_44 hl (by decide) rfl (fun ls hl => ?_)
            obtain ⟨x6, ex6, hf⟩ := nm_of hf
            refine lv_iinc (v := x6) (lv' := [(6, .int x6), (5, .int r5), (7, .int p4), (0, .int p1), (1, .int p2), (2, .int p3), (3, .int p4), (4, .int p5)]) X.1 X.2.1 dX5_staysUpright_46 hl (k := 7) rfl (by rw [ex6]; rfl) (by decide) rfl (fun ls hl => ?_)
            refine lv_goto (tgt := 6) X.1 X.2.1 dX5_staysUpright_49 (by decide) ?_
            exact ih1 r5 x6 _ _ _ hf hP hS (lv_sub hl [3, 4, 5, 6, 7, 1, 0] rfl)
          · have hf := ifn hf c4
            refine lv_iconst (v := 0) X.1 X.2.1 dX5_staysUpright_34 (by decide) ?_
            obtain rfl := Option.some.inj hf
            exact hret _ _ _ _ _ _ dX5_staysUpright_35 rfl rfl (rfl) hP hS
        · have hf := ifp hf c3
          refine lv_iload_n X.1 X.2.1 dX5_staysUpright_20 rfl (lv_at hl 2 rfl) ?_
          refine lv_goto (tgt := 25) X.1 X.2.1 dX5_staysUpright_21 (by decide) ?_
          refine lv_istore (lv' := [(7, .int p3), (0, .int p1), (1, .int p2), (2, .int p3), (3, .int p4), (4, .int p5), (5, .int v5_1), (6, .int v6_1)]) X.1 X.2.1 dX5_staysUpright_25 hl (by decide) rfl (fun ls hl => ?_)
          refine lv_iload X.1 X.2.1 dX5_staysUpright_27 (lv_at hl 0 rfl) ?_
          refine lv_iload X.1 X.2.1 dX5_staysUpright_29 (lv_at hl 6 rfl) ?_
          refine lv_icmp_le (tgt := 36) X.1 X.2.1 dX5_staysUpright_31 (by decide) (fun c7 => ?_) (fun c7 => ?_)
          · have hf := ifp hf c7
            refine lv_iload X.1 X.2.1 dX5_staysUpright_36 (lv_at hl 6 rfl) ?_
            refine lv_iload_n X.1 X.2.1 dX5_staysUpright_38 rfl (lv_at hl 2 rfl) ?_
            refine lv_iload X.1 X.2.1 dX5_staysUpright_39 (lv_at hl 0 rfl) ?_
            obtain ⟨r8, hr8, hf⟩ := bd_of hf
            refine x_rdSi X hP hS (index := 282) (n := 3) (As := [.int v5_1, .int p2, .int p3]) (ct_X5_strengthNext  hr8) ggX5_staysUpright_X5_strengthNext (by decide +kernel) (by decide +kernel) (by decide +kernel) rfl (by decide +kernel) ⟨by decide, by decide⟩ rfl hl.1 rfl (Nat.le_of_ble_eq_true rfl) dX5_staysUpright_41 (fun H locs hP hS => ?_)
            refine lv_istore (lv' := [(5, .int r8), (7, .int p3), (0, .int p1), (1, .int p2), (2, .int p3), (3, .int p4), (4, .int p5), (6, .int v6_1)]) X.1 X.2.1 dX5_staysUpright_44 hl (by decide) rfl (fun ls hl => ?_)
            obtain ⟨x9, ex9, hf⟩ := nm_of hf
            refine lv_iinc (v := x9) (lv' := [(6, .int x9), (5, .int r8), (7, .int p3), (0, .int p1), (1, .int p2), (2, .int p3), (3, .int p4), (4, .int p5)]) X.1 X.2.1 dX5_staysUpright_46 hl (k := 7) rfl (by rw [ex9]; rfl) (by decide) rfl (fun ls hl => ?_)
            refine lv_goto (tgt := 6) X.1 X.2.1 dX5_staysUpright_49 (by decide) ?_
            exact ih1 r8 x9 _ _ _ hf hP hS (lv_sub hl [3, 4, 5, 6, 7, 1, 0] rfl)
          · have hf := ifn hf c7
            refine lv_iconst (v := 0) X.1 X.2.1 dX5_staysUpright_34 (by decide) ?_
            obtain rfl := Option.some.inj hf
            exact hret _ _ _ _ _ _ dX5_staysUpright_35 rfl rfl (rfl) hP hS
  exact lp1 FU p1 0 _ _ _ hf hP hS (lv_sub hl [2, 3, 4, 5, 6, 1, 0] rfl)
def bX5_needs_62 (bu_n : Nat → Int32) (p1 : Int32) (p2 : Int32) (r5 : Int32) (r6 : Int32) (K7 : (Int32) → Option Int32) : (Int32) → Option Int32
  | v5_7 => if 200 < v5_7 then (some (-4)) else (gin p1 5 ((fX5_staysUpright v5_7 (if (bu_n (Int32.toNatClampNeg p1)) < v5_7 then v5_7 else bu_n (Int32.toNatClampNeg p1)) r5 r6 p2).bind (fun r10 => if r10 = 0 then (nm (v5_7 + 1) (fun x12 => K7 x12)) else (some v5_7))))
def fX5_needs (p1 : Int32) (p2 : Int32)  (men_n : Int32) (md_n : Int32) (day_n : Int32) (bu_n : Nat → Int32) (ki_n : Nat → Int32) (we_n : Nat → Int32) (wo_n : Nat → Int32) (wr_n : Nat → Int32) : Option Int32 := (fX1_hasMan p1 men_n).bind (fun r1 => if r1 = 0 then (some (-1)) else (if p2 < 1 then (some (-1)) else (if p2 ≤ 40 then ((fX1_loadOn p1 day_n md_n ki_n we_n wo_n wr_n).bind (fun r5 => (fX1_loadOn p1 (day_n + 1) md_n ki_n we_n wo_n wr_n).bind (fun r6 => lp (bX5_needs_62 bu_n p1 p2 r5 r6) FU 0))) else (some (-1)))))
theorem in_X5_needs_X1 : ∀ w ∈ wsX10, w ∈ wsX5_needs := by decide +kernel
theorem in_X5_needs_X5 : ∀ w ∈ wsX50, w ∈ wsX5_needs := by decide +kernel
set_option maxHeartbeats 4000000 in
set_option maxRecDepth 100000 in
theorem ct_X5_needs {l : Launch} {D : va_G} {g : Nat → ClassId} {qa : Nat → Nat} {E0 : Nat → va_E} {p1 : Int32} {p2 : Int32} {img_x : Int32} {men_n : Int32} {md_n : Int32} {day_n : Int32} {drw_n : Int32} {bu_n : Nat → Int32} {st_n : Nat → Int32} {ki_n : Nat → Int32} {we_n : Nat → Int32} {wo_n : Nat → Int32} {wr_n : Nat → Int32} (hG_x : Xo g qa E0 0 img_x) (hG_n : Mu g qa E0 1 men_n md_n day_n drw_n bu_n st_n ki_n we_n wo_n wr_n) {R : Int32} (hf : fX5_needs p1 p2 men_n md_n day_n bu_n ki_n we_n wo_n wr_n = some R) : MI l yX5_needs wsX5_needs 3 D g qa E0 [.ref (qa 0), .int p1, .int p2] R (fun E => E = E0) := by
  refine MI.mk (by decide) rfl (Nat.le_of_ble_eq_true rfl) ?_
  intro p e s m args below meth c ls Q X hret hP hS hl
  have hl : lv_has ls 6 [(0, .ref (qa 0)), (1, .int p1), (2, .int p2)] := hl
  rw [fX5_needs] at hf
  refine lv_aload_n X.1 X.2.1 dX5_needs_0 rfl (lv_at hl 0 rfl) ?_
  refine x_get X hP hG_x (by omega) rfl in_X5_needs_X5 0 (by decide) (by decide +kernel) rfl rfl dX5_needs_1 ?_
  refine lv_iload_n X.1 X.2.1 dX5_needs_4 rfl (lv_at hl 1 rfl) ?_
  obtain ⟨r1, hr1, hf⟩ := bd_of hf
  refine x_rdVi X hP hS hG_n.1 (by omega) rfl (n := 1) (As := [.int p1]) (ct_X1_hasMan (by omega) hG_n hr1) gX5_needs_X1_hasMan rfl (by decide +kernel) ⟨by decide, by decide⟩ rfl hl.1 rfl (Nat.le_of_ble_eq_true rfl) dX5_needs_5 (fun H locs hP hS => ?_)
  refine lv_if_eq (tgt := 22) X.1 X.2.1 dX5_needs_8 (by decide) (fun c2 => ?_) (fun c2 => ?_)
  · have hf := ifp hf c2
    refine lv_iconst (v := (-1)) X.1 X.2.1 dX5_needs_22 (by decide) ?_
    obtain rfl := Option.some.inj hf
    exact hret _ _ _ _ _ _ dX5_needs_23 rfl rfl (rfl) hP hS
  · have hf := ifn hf c2
    refine lv_iload_n X.1 X.2.1 dX5_needs_11 rfl (lv_at hl 2 rfl) ?_
    refine lv_iconst (v := 1) X.1 X.2.1 dX5_needs_12 (by decide) ?_
    refine lv_icmp_lt (tgt := 22) X.1 X.2.1 dX5_needs_13 (by decide) (fun c3 => ?_) (fun c3 => ?_)
    · have hf := ifp hf c3
      refine lv_iconst (v := (-1)) X.1 X.2.1 dX5_needs_22 (by decide) ?_
      obtain rfl := Option.some.inj hf
      exact hret _ _ _ _ _ _ dX5_needs_23 rfl rfl (rfl) hP hS
    · have hf := ifn hf c3
      refine lv_iload_n X.1 X.2.1 dX5_needs_16 rfl (lv_at hl 2 rfl) ?_
      refine lv_bipush (v := 40) X.1 X.2.1 dX5_needs_17 (by decide) ?_
      refine lv_icmp_le (tgt := 24) X.1 X.2.1 dX5_needs_19 (by decide) (fun c4 => ?_) (fun c4 => ?_)
      · have hf := ifp hf c4
        refine lv_aload_n X.1 X.2.1 dX5_needs_24 rfl (lv_at hl 0 rfl) ?_
        refine x_get X hP hG_x (by omega) rfl in_X5_needs_X5 0 (by decide) (by decide +kernel) rfl rfl dX5_needs_25 ?_
        refine lv_iload_n X.1 X.2.1 dX5_needs_28 rfl (lv_at hl 1 rfl) ?_
        refine lv_aload_n X.1 X.2.1 dX5_needs_29 rfl (lv_at hl 0 rfl) ?_
        refine x_get X hP hG_x (by omega) rfl in_X5_needs_X5 0 (by decide) (by decide +kernel) rfl rfl dX5_needs_30 ?_
        refine x_get X hP hG_n.1 (by omega) rfl in_X5_needs_X1 8 (by decide) (by decide +kernel) rfl rfl dX5_needs_33 ?_
        obtain ⟨r5, hr5, hf⟩ := bd_of hf
        refine x_rdVi X hP hS hG_n.1 (by omega) rfl (n := 2) (As := [.int p1, .int day_n]) (ct_X1_loadOn (by omega) hG_n hr5) gX5_needs_X1_loadOn rfl (by decide +kernel) ⟨by decide, by decide⟩ rfl hl.1 rfl (Nat.le_of_ble_eq_true rfl) dX5_needs_36 (fun H locs hP hS => ?_)
        refine lv_istore_n (lv' := [(3, .int r5), (0, .ref (qa 0)), (1, .int p1), (2, .int p2)]) X.1 X.2.1 dX5_needs_39 rfl hl (by decide) rfl (fun ls hl => ?_)
        refine lv_aload_n X.1 X.2.1 dX5_needs_40 rfl (lv_at hl 1 rfl) ?_
        refine x_get X hP hG_x (by omega) rfl in_X5_needs_X5 0 (by decide) (by decide +kernel) rfl rfl dX5_needs_41 ?_
        refine lv_iload_n X.1 X.2.1 dX5_needs_44 rfl (lv_at hl 2 rfl) ?_
        refine lv_aload_n X.1 X.2.1 dX5_needs_45 rfl (lv_at hl 1 rfl) ?_
        refine x_get X hP hG_x (by omega) rfl in_X5_needs_X5 0 (by decide) (by decide +kernel) rfl rfl dX5_needs_46 ?_
        refine x_get X hP hG_n.1 (by omega) rfl in_X5_needs_X1 8 (by decide) (by decide +kernel) rfl rfl dX5_needs_49 ?_
        refine lv_iconst (v := 1) X.1 X.2.1 dX5_needs_52 (by decide) ?_
        refine lv_iadd X.1 X.2.1 dX5_needs_53 ?_
        obtain ⟨r6, hr6, hf⟩ := bd_of hf
        refine x_rdVi X hP hS hG_n.1 (by omega) rfl (n := 2) (As := [.int p1, .int (day_n + 1)]) (ct_X1_loadOn (by omega) hG_n hr6) gX5_needs_X1_loadOn rfl (by decide +kernel) ⟨by decide, by decide⟩ rfl hl.1 rfl (Nat.le_of_ble_eq_true rfl) dX5_needs_54 (fun H locs hP hS => ?_)
        refine lv_istore (lv' := [(4, .int r6), (3, .int r5), (0, .ref (qa 0)), (1, .int p1), (2, .int p2)]) X.1 X.2.1 dX5_needs_57 hl (by decide) rfl (fun ls hl => ?_)
        refine lv_iconst (v := 0) X.1 X.2.1 dX5_needs_59 (by decide) ?_
        refine lv_istore (lv' := [(5, .int 0), (4, .int r6), (3, .int r5), (0, .ref (qa 0)), (1, .int p1), (2, .int p2)]) X.1 X.2.1 dX5_needs_60 hl (by decide) rfl (fun ls hl => ?_)
        have lp7 : ∀ (n7 : Nat) (v5_7 : Int32) (H : Heap) (locs : List Loc) (ls : Array Slot), lp (bX5_needs_62 bu_n p1 p2 r5 r6) n7 v5_7 = some R → va_P D vwCl (WD qa E0) H → va_S (gA qa s.heap.size) s.heap H locs → lv_has ls 6 [(0, .ref (qa 0)), (1, .int p1), (2, .int p2), (3, .int r5), (4, .int r6), (5, .int v5_7)] → W p l e (rmf 3) s m args below meth c H locs 0 0 Q (F0 m 62 ls []) := by
          intro n7
          induction n7 with
          | zero =>
            intro v5_7 H locs ls hf
            exact absurd hf (by intro h; cases h)
          | succ n7 ih7 =>
            intro v5_7 H locs ls hf hP hS hl
            have hf : bX5_needs_62 bu_n p1 p2 r5 r6 (lp (bX5_needs_62 bu_n p1 p2 r5 r6) n7) v5_7 = some R := hf
            rw [bX5_needs_62] at hf
            refine lv_iload X.1 X.2.1 dX5_needs_62 (lv_at hl 5 rfl) ?_
            refine lv_sipush (v := 200) X.1 X.2.1 dX5_needs_64 (by decide) ?_
            refine lv_icmp_gt (tgt := 105) X.1 X.2.1 dX5_needs_67 (by decide) (fun c8 => ?_) (fun c8 => ?_)
            · have hf := ifp hf c8
              refine lv_bipush (v := (-4)) X.1 X.2.1 dX5_needs_105 (by decide) ?_
              obtain rfl := Option.some.inj hf
              exact hret _ _ _ _ _ _ dX5_needs_107 rfl rfl (rfl) hP hS
            · have hf := ifn hf c8
              refine lv_iload X.1 X.2.1 dX5_needs_70 (lv_at hl 5 rfl) ?_
              refine lv_aload_n X.1 X.2.1 dX5_needs_72 rfl (lv_at hl 0 rfl) ?_
              refine x_get X hP hG_x (by omega) rfl in_X5_needs_X5 0 (by decide) (by decide +kernel) rfl rfl dX5_needs_73 ?_
              refine x_get X hP hG_n.1 (by omega) rfl in_X5_needs_X1 1 (by decide) (by decide +kernel) rfl rfl dX5_needs_76 ?_
              refine lv_iload_n X.1 X.2.1 dX5_needs_79 rfl (lv_at hl 1 rfl) ?_
              obtain ⟨hi9, hf⟩ := gin_of hf
              refine x_iald X hP hG_n.2.1 (by omega) hi9 dX5_needs_80 ?_
              refine lv_iload X.1 X.2.1 dX5_needs_81 (lv_at hl 5 rfl) ?_
              refine x_max X (index := 204) (by decide +kernel) (by decide +kernel) (by decide +kernel) (by decide +kernel) hl.1 (by decide) (Nat.le_of_ble_eq_true rfl) dX5_needs_83 ?_
              refine lv_iload_n X.1 X.2.1 dX5_needs_86 rfl (lv_at hl 3 rfl) ?_
              refine lv_iload X.1 X.2.1 dX5_needs_87 (lv_at hl 4 rfl) ?_
              refine lv_iload_n X.1 X.2.1 dX5_needs_89 rfl (lv_at hl 2 rfl) ?_
              obtain ⟨r10, hr10, hf⟩ := bd_of hf
              refine x_rdSi X hP hS (index := 207) (n := 5) (As := [.int v5_7, .int (if (bu_n (Int32.toNatClampNeg p1)) < v5_7 then v5_7 else bu_n (Int32.toNatClampNeg p1)), .int r5, .int r6, .int p2]) (ct_X5_staysUpright  hr10) ggX5_needs_X5_staysUpright (by decide +kernel) (by decide +kernel) (by decide +kernel) rfl (by decide +kernel) ⟨by decide, by decide⟩ rfl hl.1 rfl (Nat.le_of_ble_eq_true rfl) dX5_needs_90 (fun H locs hP hS => ?_)
              refine lv_if_eq (tgt := 99) X.1 X.2.1 dX5_needs_93 (by decide) (fun c11 => ?_) (fun c11 => ?_)
              · have hf := ifp hf c11
                obtain ⟨x12, ex12, hf⟩ := nm_of hf
                refine lv_iinc (v := x12) (lv' := [(5, .int x12), (0, .ref (qa 0)), (1, .int p1), (2, .int p2), (3, .int r5), (4, .int r6)]) X.1 X.2.1 dX5_needs_99 hl (k := 5) rfl (by rw [ex12]; rfl) (by decide) rfl (fun ls hl => ?_)
                refine lv_goto (tgt := 62) X.1 X.2.1 dX5_needs_102 (by decide) ?_
                exact ih7 x12 _ _ _ hf hP hS (lv_sub hl [1, 2, 3, 4, 5, 0] rfl)
              · have hf := ifn hf c11
                refine lv_iload X.1 X.2.1 dX5_needs_96 (lv_at hl 5 rfl) ?_
                obtain rfl := Option.some.inj hf
                exact hret _ _ _ _ _ _ dX5_needs_98 rfl rfl (rfl) hP hS
        exact lp7 FU 0 _ _ _ hf hP hS (lv_sub hl [3, 4, 5, 2, 1, 0] rfl)
      · have hf := ifn hf c4
        refine lv_iconst (v := (-1)) X.1 X.2.1 dX5_needs_22 (by decide) ?_
        obtain rfl := Option.some.inj hf
        exact hret _ _ _ _ _ _ dX5_needs_23 rfl rfl (rfl) hP hS
def fX5_of (p1 : Int32) (p2 : Int32)  (men_n : Int32) (md_n : Int32) (day_n : Int32) (bu_n : Nat → Int32) (st_n : Nat → Int32) (ki_n : Nat → Int32) (we_n : Nat → Int32) (wo_n : Nat → Int32) (wr_n : Nat → Int32) : Option Int32 := (fX1_hasMan p1 men_n).bind (fun r1 => if r1 = 0 then (some (-1)) else (if p2 = 0 then (gin p1 5 (some (bu_n (Int32.toNatClampNeg p1)))) else (if p2 = 1 then (gin p1 5 (some (st_n (Int32.toNatClampNeg p1)))) else (if p2 = 2 then ((fX1_loadOn p1 day_n md_n ki_n we_n wo_n wr_n).bind (fun r8 => some r8)) else (if p2 = 3 then ((fX1_isBent p1 md_n day_n st_n ki_n we_n wo_n wr_n).bind (fun r10 => if r10 = 0 then (some 0) else (some 1))) else (if p2 = 4 then ((fX1_wornBy p1 md_n wr_n).bind (fun r13 => some r13)) else (if p2 = 5 then ((fX1_woundsOf p1 md_n wo_n).bind (fun r15 => some r15)) else (some (-1)))))))))
theorem in_X5_of_X1 : ∀ w ∈ wsX10, w ∈ wsX5_of := by decide +kernel
theorem in_X5_of_X5 : ∀ w ∈ wsX50, w ∈ wsX5_of := by decide +kernel
set_option maxHeartbeats 4000000 in
set_option maxRecDepth 100000 in
theorem ct_X5_of {l : Launch} {D : va_G} {g : Nat → ClassId} {qa : Nat → Nat} {E0 : Nat → va_E} {p1 : Int32} {p2 : Int32} {img_x : Int32} {men_n : Int32} {md_n : Int32} {day_n : Int32} {drw_n : Int32} {bu_n : Nat → Int32} {st_n : Nat → Int32} {ki_n : Nat → Int32} {we_n : Nat → Int32} {wo_n : Nat → Int32} {wr_n : Nat → Int32} (hG_x : Xo g qa E0 0 img_x) (hG_n : Mu g qa E0 1 men_n md_n day_n drw_n bu_n st_n ki_n we_n wo_n wr_n) {R : Int32} (hf : fX5_of p1 p2 men_n md_n day_n bu_n st_n ki_n we_n wo_n wr_n = some R) : MI l yX5_of wsX5_of 4 D g qa E0 [.ref (qa 0), .int p1, .int p2] R (fun E => E = E0) := by
  refine MI.mk (by decide) rfl (Nat.le_of_ble_eq_true rfl) ?_
  intro p e s m args below meth c ls Q X hret hP hS hl
  have hl : lv_has ls 3 [(0, .ref (qa 0)), (1, .int p1), (2, .int p2)] := hl
  rw [fX5_of] at hf
  refine lv_aload_n X.1 X.2.1 dX5_of_0 rfl (lv_at hl 0 rfl) ?_
  refine x_get X hP hG_x (by omega) rfl in_X5_of_X5 0 (by decide) (by decide +kernel) rfl rfl dX5_of_1 ?_
  refine lv_iload_n X.1 X.2.1 dX5_of_4 rfl (lv_at hl 1 rfl) ?_
  obtain ⟨r1, hr1, hf⟩ := bd_of hf
  refine x_rdVi X hP hS hG_n.1 (by omega) rfl (n := 1) (As := [.int p1]) (ct_X1_hasMan (by omega) hG_n hr1) gX5_of_X1_hasMan rfl (by decide +kernel) ⟨by decide, by decide⟩ rfl hl.1 rfl (Nat.le_of_ble_eq_true rfl) dX5_of_5 (fun H locs hP hS => ?_)
  refine lv_if_ne (tgt := 13) X.1 X.2.1 dX5_of_8 (by decide) (fun c2 => ?_) (fun c2 => ?_)
  · have hf := ifn hf c2
    refine lv_iload_n X.1 X.2.1 dX5_of_13 rfl (lv_at hl 2 rfl) ?_
    by_cases w3 : p2 = 0
    · have hf := ifp hf w3
      refine lv_tableIn (tgt := 52) X.1 X.2.1 dX5_of_14 (by rw [w3]; decide) (by rw [w3]; decide) (off := 38) (by rw [w3]; decide) (by decide) ?_
      refine lv_aload_n X.1 X.2.1 dX5_of_52 rfl (lv_at hl 0 rfl) ?_
      refine x_get X hP hG_x (by omega) rfl in_X5_of_X5 0 (by decide) (by decide +kernel) rfl rfl dX5_of_53 ?_
      refine x_get X hP hG_n.1 (by omega) rfl in_X5_of_X1 1 (by decide) (by decide +kernel) rfl rfl dX5_of_56 ?_
      refine lv_iload_n X.1 X.2.1 dX5_of_59 rfl (lv_at hl 1 rfl) ?_
      obtain ⟨hi4, hf⟩ := gin_of hf
      refine x_iald X hP hG_n.2.1 (by omega) hi4 dX5_of_60 ?_
      obtain rfl := Option.some.inj hf
      exact hret _ _ _ _ _ _ dX5_of_61 rfl rfl (rfl) hP hS
    have hf := ifn hf w3
    by_cases w5 : p2 = 1
    · have hf := ifp hf w5
      refine lv_tableIn (tgt := 62) X.1 X.2.1 dX5_of_14 (by rw [w5]; decide) (by rw [w5]; decide) (off := 48) (by rw [w5]; decide) (by decide) ?_
      refine lv_aload_n X.1 X.2.1 dX5_of_62 rfl (lv_at hl 0 rfl) ?_
      refine x_get X hP hG_x (by omega) rfl in_X5_of_X5 0 (by decide) (by decide +kernel) rfl rfl dX5_of_63 ?_
      refine x_get X hP hG_n.1 (by omega) rfl in_X5_of_X1 2 (by decide) (by decide +kernel) rfl rfl dX5_of_66 ?_
      refine lv_iload_n X.1 X.2.1 dX5_of_69 rfl (lv_at hl 1 rfl) ?_
      obtain ⟨hi6, hf⟩ := gin_of hf
      refine x_iald X hP hG_n.2.2.1 (by omega) hi6 dX5_of_70 ?_
      obtain rfl := Option.some.inj hf
      exact hret _ _ _ _ _ _ dX5_of_71 rfl rfl (rfl) hP hS
    have hf := ifn hf w5
    by_cases w7 : p2 = 2
    · have hf := ifp hf w7
      refine lv_tableIn (tgt := 72) X.1 X.2.1 dX5_of_14 (by rw [w7]; decide) (by rw [w7]; decide) (off := 58) (by rw [w7]; decide) (by decide) ?_
      refine lv_aload_n X.1 X.2.1 dX5_of_72 rfl (lv_at hl 0 rfl) ?_
      refine x_get X hP hG_x (by omega) rfl in_X5_of_X5 0 (by decide) (by decide +kernel) rfl rfl dX5_of_73 ?_
      refine lv_iload_n X.1 X.2.1 dX5_of_76 rfl (lv_at hl 1 rfl) ?_
      refine lv_aload_n X.1 X.2.1 dX5_of_77 rfl (lv_at hl 0 rfl) ?_
      refine x_get X hP hG_x (by omega) rfl in_X5_of_X5 0 (by decide) (by decide +kernel) rfl rfl dX5_of_78 ?_
      refine x_get X hP hG_n.1 (by omega) rfl in_X5_of_X1 8 (by decide) (by decide +kernel) rfl rfl dX5_of_81 ?_
      obtain ⟨r8, hr8, hf⟩ := bd_of hf
      refine x_rdVi X hP hS hG_n.1 (by omega) rfl (n := 2) (As := [.int p1, .int day_n]) (ct_X1_loadOn (by omega) hG_n hr8) gX5_of_X1_loadOn rfl (by decide +kernel) ⟨by decide, by decide⟩ rfl hl.1 rfl (Nat.le_of_ble_eq_true rfl) dX5_of_84 (fun H locs hP hS => ?_)
      obtain rfl := Option.some.inj hf
      exact hret _ _ _ _ _ _ dX5_of_87 rfl rfl (rfl) hP hS
    have hf := ifn hf w7
    by_cases w9 : p2 = 3
    · have hf := ifp hf w9
      refine lv_tableIn (tgt := 88) X.1 X.2.1 dX5_of_14 (by rw [w9]; decide) (by rw [w9]; decide) (off := 74) (by rw [w9]; decide) (by decide) ?_
      refine lv_aload_n X.1 X.2.1 dX5_of_88 rfl (lv_at hl 0 rfl) ?_
      refine x_get X hP hG_x (by omega) rfl in_X5_of_X5 0 (by decide) (by decide +kernel) rfl rfl dX5_of_89 ?_
      refine lv_iload_n X.1 X.2.1 dX5_of_92 rfl (lv_at hl 1 rfl) ?_
      obtain ⟨r10, hr10, hf⟩ := bd_of hf
      refine x_rdVi X hP hS hG_n.1 (by omega) rfl (n := 1) (As := [.int p1]) (ct_X1_isBent (by omega) hG_n hr10) gX5_of_X1_isBent rfl (by decide +kernel) ⟨by decide, by decide⟩ rfl hl.1 rfl (Nat.le_of_ble_eq_true rfl) dX5_of_93 (fun H locs hP hS => ?_)
      refine lv_if_eq (tgt := 103) X.1 X.2.1 dX5_of_96 (by decide) (fun c11 => ?_) (fun c11 => ?_)
      · have hf := ifp hf c11
        refine lv_iconst (v := 0) X.1 X.2.1 dX5_of_103 (by decide) ?_
        obtain rfl := Option.some.inj hf
        exact hret _ _ _ _ _ _ dX5_of_104 rfl rfl (rfl) hP hS
      · have hf := ifn hf c11
        refine lv_iconst (v := 1) X.1 X.2.1 dX5_of_99 (by decide) ?_
        refine lv_goto (tgt := 104) X.1 X.2.1 dX5_of_100 (by decide) ?_
        obtain rfl := Option.some.inj hf
        exact hret _ _ _ _ _ _ dX5_of_104 rfl rfl (rfl) hP hS
    have hf := ifn hf w9
    by_cases w12 : p2 = 4
    · have hf := ifp hf w12
      refine lv_tableIn (tgt := 105) X.1 X.2.1 dX5_of_14 (by rw [w12]; decide) (by rw [w12]; decide) (off := 91) (by rw [w12]; decide) (by decide) ?_
      refine lv_aload_n X.1 X.2.1 dX5_of_105 rfl (lv_at hl 0 rfl) ?_
      refine x_get X hP hG_x (by omega) rfl in_X5_of_X5 0 (by decide) (by decide +kernel) rfl rfl dX5_of_106 ?_
      refine lv_iload_n X.1 X.2.1 dX5_of_109 rfl (lv_at hl 1 rfl) ?_
      obtain ⟨r13, hr13, hf⟩ := bd_of hf
      refine x_rdVi X hP hS hG_n.1 (by omega) rfl (n := 1) (As := [.int p1]) (ct_X1_wornBy (by omega) hG_n hr13) gX5_of_X1_wornBy rfl (by decide +kernel) ⟨by decide, by decide⟩ rfl hl.1 rfl (Nat.le_of_ble_eq_true rfl) dX5_of_110 (fun H locs hP hS => ?_)
      obtain rfl := Option.some.inj hf
      exact hret _ _ _ _ _ _ dX5_of_113 rfl rfl (rfl) hP hS
    have hf := ifn hf w12
    by_cases w14 : p2 = 5
    · have hf := ifp hf w14
      refine lv_tableIn (tgt := 114) X.1 X.2.1 dX5_of_14 (by rw [w14]; decide) (by rw [w14]; decide) (off := 100) (by rw [w14]; decide) (by decide) ?_
      refine lv_aload_n X.1 X.2.1 dX5_of_114 rfl (lv_at hl 0 rfl) ?_
      refine x_get X hP hG_x (by omega) rfl in_X5_of_X5 0 (by decide) (by decide +kernel) rfl rfl dX5_of_115 ?_
      refine lv_iload_n X.1 X.2.1 dX5_of_118 rfl (lv_at hl 1 rfl) ?_
      obtain ⟨r15, hr15, hf⟩ := bd_of hf
      refine x_rdVi X hP hS hG_n.1 (by omega) rfl (n := 1) (As := [.int p1]) (ct_X1_woundsOf (by omega) hG_n hr15) gX5_of_X1_woundsOf rfl (by decide +kernel) ⟨by decide, by decide⟩ rfl hl.1 rfl (Nat.le_of_ble_eq_true rfl) dX5_of_119 (fun H locs hP hS => ?_)
      obtain rfl := Option.some.inj hf
      exact hret _ _ _ _ _ _ dX5_of_122 rfl rfl (rfl) hP hS
    have hf := ifn hf w14
    refine lv_tableOut (tgt := 123) X.1 X.2.1 dX5_of_14 (by have := i_ne 0 (0) (by decide) w3; have := i_ne 1 (1) (by decide) w5; have := i_ne 2 (2) (by decide) w7; have := i_ne 3 (3) (by decide) w9; have := i_ne 4 (4) (by decide) w12; have := i_ne 5 (5) (by decide) w14; omega) (by decide) ?_
    refine lv_iconst (v := (-1)) X.1 X.2.1 dX5_of_123 (by decide) ?_
    obtain rfl := Option.some.inj hf
    exact hret _ _ _ _ _ _ dX5_of_124 rfl rfl (rfl) hP hS
  · have hf := ifp hf c2
    refine lv_iconst (v := (-1)) X.1 X.2.1 dX5_of_11 (by decide) ?_
    obtain rfl := Option.some.inj hf
    exact hret _ _ _ _ _ _ dX5_of_12 rfl rfl (rfl) hP hS
def bX5_off_43 (md_n : Int32) (wr_n : Nat → Int32) (p1 : Int32) (p2 : Int32) (r5 : (Int32 × Int32 × Int32 × Int32 × (Nat → Int32) × (Nat → Int32) × (Nat → Int32) × (Nat → Int32) × (Nat → Int32) × (Nat → Int32))) (K6 : ((Int32 × Int32 × Int32 × (Nat → Int32))) → Option (Int32 × Int32 × Int32 × Int32 × Int32 × (Nat → Int32) × (Nat → Int32) × (Nat → Int32) × (Nat → Int32) × (Nat → Int32) × (Nat → Int32))) : ((Int32 × Int32 × Int32 × (Nat → Int32))) → Option (Int32 × Int32 × Int32 × Int32 × Int32 × (Nat → Int32) × (Nat → Int32) × (Nat → Int32) × (Nat → Int32) × (Nat → Int32) × (Nat → Int32))
  | (v3_6, v4_6, v5_6, wr_t_6) => if md_n ≤ v5_6 then (if p2 = 0 then (some (v3_6, r5.1, r5.2.1, r5.2.2.1, r5.2.2.2.1, r5.2.2.2.2.1, r5.2.2.2.2.2.1, r5.2.2.2.2.2.2.1, r5.2.2.2.2.2.2.2.1, r5.2.2.2.2.2.2.2.2.1, wr_t_6)) else (some (v4_6, r5.1, r5.2.1, r5.2.2.1, r5.2.2.2.1, r5.2.2.2.2.1, r5.2.2.2.2.2.1, r5.2.2.2.2.2.2.1, r5.2.2.2.2.2.2.2.1, r5.2.2.2.2.2.2.2.2.1, wr_t_6))) else (gin v5_6 6 (if (wr_n (Int32.toNatClampNeg v5_6)) = (-4) then (nm (v5_6 + 1) (fun x11 => K6 (v3_6, v4_6, x11, wr_t_6))) else (gin v5_6 6 ((fX1_bentBehind p1 r5.1 r5.2.1 r5.2.2.1 r5.2.2.2.2.1 r5.2.2.2.2.2.1 r5.2.2.2.2.2.2.1 r5.2.2.2.2.2.2.2.1 r5.2.2.2.2.2.2.2.2.1 (upd wr_t_6 (Int32.toNatClampNeg v5_6) (-4))).bind (fun r13 => (fJ6_bitCount_0f7a4 r13).bind (fun r14 => gin v5_6 6 (gin v5_6 6 (if v3_6 = (-4) then (nm (v5_6 + 1) (fun x18 => K6 (v5_6, r14, x18, upd (upd wr_t_6 (Int32.toNatClampNeg v5_6) (-4)) (Int32.toNatClampNeg v5_6) (wr_n (Int32.toNatClampNeg v5_6))))) else (if v4_6 ≤ r14 then (nm (v5_6 + 1) (fun x20 => K6 (v3_6, v4_6, x20, upd (upd wr_t_6 (Int32.toNatClampNeg v5_6) (-4)) (Int32.toNatClampNeg v5_6) (wr_n (Int32.toNatClampNeg v5_6))))) else (nm (v5_6 + 1) (fun x21 => K6 (v5_6, r14, x21, upd (upd wr_t_6 (Int32.toNatClampNeg v5_6) (-4)) (Int32.toNatClampNeg v5_6) (wr_n (Int32.toNatClampNeg v5_6))))))))))))))
def fX5_off (p1 : Int32) (p2 : Int32)  (men_n : Int32) (md_n : Int32) (day_n : Int32) (drw_n : Int32) (bu_n : Nat → Int32) (st_n : Nat → Int32) (ki_n : Nat → Int32) (we_n : Nat → Int32) (wo_n : Nat → Int32) (wr_n : Nat → Int32) (men_t : Int32) (md_t : Int32) (day_t : Int32) (drw_t : Int32) (bu_t : Nat → Int32) (st_t : Nat → Int32) (ki_t : Nat → Int32) (we_t : Nat → Int32) (wo_t : Nat → Int32) (wr_t : Nat → Int32) : Option (Int32 × Int32 × Int32 × Int32 × Int32 × (Nat → Int32) × (Nat → Int32) × (Nat → Int32) × (Nat → Int32) × (Nat → Int32) × (Nat → Int32)) := if p1 < 1 then (some ((-1), men_t, md_t, day_t, drw_t, bu_t, st_t, ki_t, we_t, wo_t, wr_t)) else (if 40 < p1 then (some ((-1), men_t, md_t, day_t, drw_t, bu_t, st_t, ki_t, we_t, wo_t, wr_t)) else (if p2 < 0 then (some ((-1), men_t, md_t, day_t, drw_t, bu_t, st_t, ki_t, we_t, wo_t, wr_t)) else (if p2 ≤ 1 then ((fX1_take bu_t st_t ki_t we_t wo_t wr_t men_n md_n day_n drw_n bu_n st_n ki_n we_n wo_n wr_n).bind (fun r5 => lp (bX5_off_43 md_n wr_n p1 p2 r5) FU ((-4), (-4), 0, r5.2.2.2.2.2.2.2.2.2))) else (some ((-1), men_t, md_t, day_t, drw_t, bu_t, st_t, ki_t, we_t, wo_t, wr_t)))))
theorem in_X5_off_X1 : ∀ w ∈ wsX10, w ∈ wsX5_off := by decide +kernel
theorem in_X5_off_X5 : ∀ w ∈ wsX50, w ∈ wsX5_off := by decide +kernel
set_option maxHeartbeats 4000000 in
set_option maxRecDepth 100000 in
theorem ct_X5_off {l : Launch} {D : va_G} {g : Nat → ClassId} {qa : Nat → Nat} {E0 : Nat → va_E} {p1 : Int32} {p2 : Int32} {img_x : Int32} {men_n : Int32} {md_n : Int32} {day_n : Int32} {drw_n : Int32} {bu_n : Nat → Int32} {st_n : Nat → Int32} {ki_n : Nat → Int32} {we_n : Nat → Int32} {wo_n : Nat → Int32} {wr_n : Nat → Int32} {men_t : Int32} {md_t : Int32} {day_t : Int32} {drw_t : Int32} {bu_t : Nat → Int32} {st_t : Nat → Int32} {ki_t : Nat → Int32} {we_t : Nat → Int32} {wo_t : Nat → Int32} {wr_t : Nat → Int32} (hG_x : Xo g qa E0 0 img_x) (hG_n : Mu g qa E0 1 men_n md_n day_n drw_n bu_n st_n ki_n we_n wo_n wr_n) (hG_t : Mu g qa E0 35 men_t md_t day_t drw_t bu_t st_t ki_t we_t wo_t wr_t) {R : (Int32 × Int32 × Int32 × Int32 × Int32 × (Nat → Int32) × (Nat → Int32) × (Nat → Int32) × (Nat → Int32) × (Nat → Int32) × (Nat → Int32))} (hf : fX5_off p1 p2 men_n md_n day_n drw_n bu_n st_n ki_n we_n wo_n wr_n men_t md_t day_t drw_t bu_t st_t ki_t we_t wo_t wr_t = some R) : MI l yX5_off wsX5_off 6 D g qa E0 [.ref (qa 0), .int p1, .int p2] R.1 (fun E => Mu g qa E 35 R.2.1 R.2.2.1 R.2.2.2.1 R.2.2.2.2.1 R.2.2.2.2.2.1 R.2.2.2.2.2.2.1 R.2.2.2.2.2.2.2.1 R.2.2.2.2.2.2.2.2.1 R.2.2.2.2.2.2.2.2.2.1 R.2.2.2.2.2.2.2.2.2.2 ∧ ∀ j, (j < 35 ∨ 42 ≤ j) → E j = E0 j) := by
  refine MI.mk (by decide) rfl (Nat.le_of_ble_eq_true rfl) ?_
  intro p e s m args below meth c ls Q X hret hP hS hl
  have hl : lv_has ls 7 [(0, .ref (qa 0)), (1, .int p1), (2, .int p2)] := hl
  have hfr : ∀ j, (j < 35 ∨ 42 ≤ j) → E0 j = E0 j := fun _ _ => rfl
  rw [fX5_off] at hf
  refine lv_iload_n X.1 X.2.1 dX5_off_0 rfl (lv_at hl 1 rfl) ?_
  refine lv_iconst (v := 1) X.1 X.2.1 dX5_off_1 (by decide) ?_
  refine lv_icmp_lt (tgt := 20) X.1 X.2.1 dX5_off_2 (by decide) (fun c1 => ?_) (fun c1 => ?_)
  · have hf := ifp hf c1
    refine lv_iconst (v := (-1)) X.1 X.2.1 dX5_off_20 (by decide) ?_
    obtain rfl := Option.some.inj hf
    exact hret _ _ _ _ _ _ dX5_off_21 rfl rfl (⟨hG_t, hfr⟩) hP hS
  · have hf := ifn hf c1
    refine lv_iload_n X.1 X.2.1 dX5_off_5 rfl (lv_at hl 1 rfl) ?_
    refine lv_bipush (v := 40) X.1 X.2.1 dX5_off_6 (by decide) ?_
    refine lv_icmp_gt (tgt := 20) X.1 X.2.1 dX5_off_8 (by decide) (fun c2 => ?_) (fun c2 => ?_)
    · have hf := ifp hf c2
      refine lv_iconst (v := (-1)) X.1 X.2.1 dX5_off_20 (by decide) ?_
      obtain rfl := Option.some.inj hf
      exact hret _ _ _ _ _ _ dX5_off_21 rfl rfl (⟨hG_t, hfr⟩) hP hS
    · have hf := ifn hf c2
      refine lv_iload_n X.1 X.2.1 dX5_off_11 rfl (lv_at hl 2 rfl) ?_
      refine lv_if_lt (tgt := 20) X.1 X.2.1 dX5_off_12 (by decide) (fun c3 => ?_) (fun c3 => ?_)
      · have hf := ifp hf c3
        refine lv_iconst (v := (-1)) X.1 X.2.1 dX5_off_20 (by decide) ?_
        obtain rfl := Option.some.inj hf
        exact hret _ _ _ _ _ _ dX5_off_21 rfl rfl (⟨hG_t, hfr⟩) hP hS
      · have hf := ifn hf c3
        refine lv_iload_n X.1 X.2.1 dX5_off_15 rfl (lv_at hl 2 rfl) ?_
        refine lv_iconst (v := 1) X.1 X.2.1 dX5_off_16 (by decide) ?_
        refine lv_icmp_le (tgt := 22) X.1 X.2.1 dX5_off_17 (by decide) (fun c4 => ?_) (fun c4 => ?_)
        · have hf := ifp hf c4
          refine lv_bipush (v := (-4)) X.1 X.2.1 dX5_off_22 (by decide) ?_
          refine lv_istore_n (lv' := [(3, .int (-4)), (0, .ref (qa 0)), (1, .int p1), (2, .int p2)]) X.1 X.2.1 dX5_off_24 rfl hl (by decide) rfl (fun ls hl => ?_)
          refine lv_bipush (v := (-4)) X.1 X.2.1 dX5_off_25 (by decide) ?_
          refine lv_istore (lv' := [(4, .int (-4)), (3, .int (-4)), (0, .ref (qa 0)), (1, .int p1), (2, .int p2)]) X.1 X.2.1 dX5_off_27 hl (by decide) rfl (fun ls hl => ?_)
          refine lv_aload_n X.1 X.2.1 dX5_off_29 rfl (lv_at hl 2 rfl) ?_
          refine x_get X hP hG_x (by omega) rfl in_X5_off_X5 5 (by decide) (by decide +kernel) rfl rfl dX5_off_30 ?_
          refine lv_aload_n X.1 X.2.1 dX5_off_33 rfl (lv_at hl 2 rfl) ?_
          refine x_get X hP hG_x (by omega) rfl in_X5_off_X5 0 (by decide) (by decide +kernel) rfl rfl dX5_off_34 ?_
          obtain ⟨r5, hr5, hf⟩ := bd_of hf
          refine x_callVv X hP hS hG_t.1 (by omega) rfl (n := 1) (As := [.ref (qa 1)]) (ct_X1_take (by omega) hG_t (by omega) hG_n (by omega) hr5) gX5_off_X1_take rfl (by decide +kernel) ⟨by decide, by decide⟩ rfl hl.1 rfl (Nat.le_of_ble_eq_true rfl) dX5_off_37 (fun E H locs hp hP hS => ?_)
          obtain ⟨hW_n, hk⟩ := hp
          have hG_t := hW_n
          have hG_x := Xo_kept hG_x (fun j h8 h9 => hk j (by omega))
          have hG_n := Mu_kept hG_n (fun j h8 h9 => hk j (by omega))
          have hfr : ∀ j, (j < 35 ∨ 42 ≤ j) → E j = E0 j := fun j o0 => (hk j (by omega)).trans (hfr j o0)
          refine lv_iconst (v := 0) X.1 X.2.1 dX5_off_40 (by decide) ?_
          refine lv_istore (lv' := [(5, .int 0), (4, .int (-4)), (3, .int (-4)), (0, .ref (qa 0)), (1, .int p1), (2, .int p2)]) X.1 X.2.1 dX5_off_41 hl (by decide) rfl (fun ls hl => ?_)
          have lp6 : ∀ (n6 : Nat) (v3_6 : Int32) (v4_6 : Int32) (v5_6 : Int32) (wr_t_6 : Nat → Int32) (E : Nat → va_E) (H : Heap) (locs : List Loc) (ls : Array Slot), lp (bX5_off_43 md_n wr_n p1 p2 r5) n6 (v3_6, v4_6, v5_6, wr_t_6) = some R → va_P D vwCl (WD qa E) H → va_S (gA qa s.heap.size) s.heap H locs → Xo g qa E 0 img_x → Mu g qa E 1 men_n md_n day_n drw_n bu_n st_n ki_n we_n wo_n wr_n → Mu g qa E 35 r5.1 r5.2.1 r5.2.2.1 r5.2.2.2.1 r5.2.2.2.2.1 r5.2.2.2.2.2.1 r5.2.2.2.2.2.2.1 r5.2.2.2.2.2.2.2.1 r5.2.2.2.2.2.2.2.2.1 wr_t_6 → (∀ j, (j < 35 ∨ 42 ≤ j) → E j = E0 j) → lv_has ls 7 [(0, .ref (qa 0)), (1, .int p1), (2, .int p2), (3, .int v3_6), (4, .int v4_6), (5, .int v5_6)] → W p l e (rmf 6) s m args below meth c H locs 0 0 Q (F0 m 43 ls []) := by
            intro n6
            induction n6 with
            | zero =>
              intro v3_6 v4_6 v5_6 wr_t_6 E H locs ls hf
              exact absurd hf (by intro h; cases h)
            | succ n6 ih6 =>
              intro v3_6 v4_6 v5_6 wr_t_6 E H locs ls hf hP hS hG_x hG_n hG_t hfr hl
              have hf : bX5_off_43 md_n wr_n p1 p2 r5 (lp (bX5_off_43 md_n wr_n p1 p2 r5) n6) (v3_6, v4_6, v5_6, wr_t_6) = some R := hf
              rw [bX5_off_43] at hf
              refine lv_iload X.1 X.2.1 dX5_off_43 (lv_at hl 5 rfl) ?_
              refine lv_aload_n X.1 X.2.1 dX5_off_45 rfl (lv_at hl 0 rfl) ?_
              refine x_get X hP hG_x (by omega) rfl in_X5_off_X5 0 (by decide) (by decide +kernel) rfl rfl dX5_off_46 ?_
              refine x_get X hP hG_n.1 (by omega) rfl in_X5_off_X1 3 (by decide) (by decide +kernel) rfl rfl dX5_off_49 ?_
              refine lv_icmp_ge (tgt := 141) X.1 X.2.1 dX5_off_52 (by decide) (fun c7 => ?_) (fun c7 => ?_)
              · have hf := ifp hf c7
                refine lv_iload_n X.1 X.2.1 dX5_off_141 rfl (lv_at hl 2 rfl) ?_
                refine lv_if_ne (tgt := 149) X.1 X.2.1 dX5_off_142 (by decide) (fun c8 => ?_) (fun c8 => ?_)
                · have hf := ifn hf c8
                  refine lv_iload X.1 X.2.1 dX5_off_149 (lv_at hl 4 rfl) ?_
                  obtain rfl := Option.some.inj hf
                  exact hret _ _ _ _ _ _ dX5_off_151 rfl rfl (⟨hG_t, hfr⟩) hP hS
                · have hf := ifp hf c8
                  refine lv_iload_n X.1 X.2.1 dX5_off_145 rfl (lv_at hl 3 rfl) ?_
                  refine lv_goto (tgt := 151) X.1 X.2.1 dX5_off_146 (by decide) ?_
                  obtain rfl := Option.some.inj hf
                  exact hret _ _ _ _ _ _ dX5_off_151 rfl rfl (⟨hG_t, hfr⟩) hP hS
              · have hf := ifn hf c7
                refine lv_aload_n X.1 X.2.1 dX5_off_55 rfl (lv_at hl 0 rfl) ?_
                refine x_get X hP hG_x (by omega) rfl in_X5_off_X5 0 (by decide) (by decide +kernel) rfl rfl dX5_off_56 ?_
                refine x_get X hP hG_n.1 (by omega) rfl in_X5_off_X1 7 (by decide) (by decide +kernel) rfl rfl dX5_off_59 ?_
                refine lv_iload X.1 X.2.1 dX5_off_62 (lv_at hl 5 rfl) ?_
                obtain ⟨hi9, hf⟩ := gin_of hf
                refine x_iald X hP hG_n.2.2.2.2.2.2 (by omega) hi9 dX5_off_64 ?_
                refine lv_bipush (v := (-4)) X.1 X.2.1 dX5_off_65 (by decide) ?_
                refine lv_icmp_eq (tgt := 135) X.1 X.2.1 dX5_off_67 (by decide) (fun c10 => ?_) (fun c10 => ?_)
                · have hf := ifp hf c10
                  obtain ⟨x11, ex11, hf⟩ := nm_of hf
                  refine lv_iinc (v := x11) (lv' := [(5, .int x11), (0, .ref (qa 0)), (1, .int p1), (2, .int p2), (3, .int v3_6), (4, .int v4_6)]) X.1 X.2.1 dX5_off_135 hl (k := 5) rfl (by rw [ex11]; rfl) (by decide) rfl (fun ls hl => ?_)
                  refine lv_goto (tgt := 43) X.1 X.2.1 dX5_off_138 (by decide) ?_
                  exact ih6 v3_6 v4_6 x11 wr_t_6 _ _ _ _ hf hP hS hG_x hG_n hG_t hfr (lv_sub hl [1, 2, 3, 4, 5, 0] rfl)
                · have hf := ifn hf c10
                  refine lv_aload_n X.1 X.2.1 dX5_off_70 rfl (lv_at hl 0 rfl) ?_
                  refine x_get X hP hG_x (by omega) rfl in_X5_off_X5 5 (by decide) (by decide +kernel) rfl rfl dX5_off_71 ?_
                  refine x_get X hP hG_t.1 (by omega) rfl in_X5_off_X1 7 (by decide) (by decide +kernel) rfl rfl dX5_off_74 ?_
                  refine lv_iload X.1 X.2.1 dX5_off_77 (lv_at hl 5 rfl) ?_
                  refine lv_bipush (v := (-4)) X.1 X.2.1 dX5_off_79 (by decide) ?_
                  obtain ⟨hi12, hf⟩ := gin_of hf
                  refine x_iast X hP hS hG_t.2.2.2.2.2.2 (by omega) hi12 dX5_off_81 (fun E H locs h1 hk hP hS => ?_)
                  have hG_t := Mu_set_6 hG_t h1 hk
                  have hG_x := Xo_kept hG_x (fun j h8 h9 => hk j (by omega))
                  have hG_n := Mu_kept hG_n (fun j h8 h9 => hk j (by omega))
                  have hfr : ∀ j, (j < 35 ∨ 42 ≤ j) → E j = E0 j := fun j o0 => (hk j (by omega)).trans (hfr j o0)
                  refine lv_aload_n X.1 X.2.1 dX5_off_82 rfl (lv_at hl 0 rfl) ?_
                  refine x_get X hP hG_x (by omega) rfl in_X5_off_X5 5 (by decide) (by decide +kernel) rfl rfl dX5_off_83 ?_
                  refine lv_iload_n X.1 X.2.1 dX5_off_86 rfl (lv_at hl 1 rfl) ?_
                  obtain ⟨r13, hr13, hf⟩ := bd_of hf
                  refine x_rdVi X hP hS hG_t.1 (by omega) rfl (n := 1) (As := [.int p1]) (ct_X1_bentBehind (by omega) hG_t hr13) gX5_off_X1_bentBehind rfl (by decide +kernel) ⟨by decide, by decide⟩ rfl hl.1 rfl (Nat.le_of_ble_eq_true rfl) dX5_off_87 (fun H locs hP hS => ?_)
                  obtain ⟨r14, hr14, hf⟩ := bd_of hf
                  refine x_rdSi X hP hS (index := 199) (n := 1) (As := [.int r13]) (ct_J6_bitCount_0f7a4  hr14) ggX5_off_J6_bitCount_0f7a4 (by decide +kernel) (by decide +kernel) (by decide +kernel) rfl (by decide +kernel) ⟨by decide, by decide⟩ rfl hl.1 rfl (Nat.le_of_ble_eq_true rfl) dX5_off_90 (fun H locs hP hS => ?_)
                  refine lv_istore (lv' := [(6, .int r14), (0, .ref (qa 0)), (1, .int p1), (2, .int p2), (3, .int v3_6), (4, .int v4_6), (5, .int v5_6)]) X.1 X.2.1 dX5_off_93 hl (by decide) rfl (fun ls hl => ?_)
                  refine lv_aload_n X.1 X.2.1 dX5_off_95 rfl (lv_at hl 1 rfl) ?_
                  refine x_get X hP hG_x (by omega) rfl in_X5_off_X5 5 (by decide) (by decide +kernel) rfl rfl dX5_off_96 ?_
                  refine x_get X hP hG_t.1 (by omega) rfl in_X5_off_X1 7 (by decide) (by decide +kernel) rfl rfl dX5_off_99 ?_
                  refine lv_iload X.1 X.2.1 dX5_off_102 (lv_at hl 6 rfl) ?_
                  refine lv_aload_n X.1 X.2.1 dX5_off_104 rfl (lv_at hl 1 rfl) ?_
                  refine x_get X hP hG_x (by omega) rfl in_X5_off_X5 0 (by decide) (by decide +kernel) rfl rfl dX5_off_105 ?_
                  refine x_get X hP hG_n.1 (by omega) rfl in_X5_off_X1 7 (by decide) (by decide +kernel) rfl rfl dX5_off_108 ?_
                  refine lv_iload X.1 X.2.1 dX5_off_111 (lv_at hl 6 rfl) ?_
                  obtain ⟨hi15, hf⟩ := gin_of hf
                  refine x_iald X hP hG_n.2.2.2.2.2.2 (by omega) hi15 dX5_off_113 ?_
                  obtain ⟨hi16, hf⟩ := gin_of hf
                  refine x_iast X hP hS hG_t.2.2.2.2.2.2 (by omega) hi16 dX5_off_114 (fun E H locs h1 hk hP hS => ?_)
                  have hG_t := Mu_set_6 hG_t h1 hk
                  have hG_x := Xo_kept hG_x (fun j h8 h9 => hk j (by omega))
                  have hG_n := Mu_kept hG_n (fun j h8 h9 => hk j (by omega))
                  have hfr : ∀ j, (j < 35 ∨ 42 ≤ j) → E j = E0 j := fun j o0 => (hk j (by omega)).trans (hfr j o0)
                  refine lv_iload_n X.1 X.2.1 dX5_off_115 rfl (lv_at hl 4 rfl) ?_
                  refine lv_bipush (v := (-4)) X.1 X.2.1 dX5_off_116 (by decide) ?_
                  refine lv_icmp_eq (tgt := 128) X.1 X.2.1 dX5_off_118 (by decide) (fun c17 => ?_) (fun c17 => ?_)
                  · have hf := ifp hf c17
                    refine lv_iload X.1 X.2.1 dX5_off_128 (lv_at hl 6 rfl) ?_
                    refine lv_istore_n (lv' := [(3, .int v5_6), (6, .int r14), (0, .ref (qa 0)), (1, .int p1), (2, .int p2), (4, .int v4_6), (5, .int v5_6)]) X.1 X.2.1 dX5_off_130 rfl hl (by decide) rfl (fun ls hl => ?_)
                    refine lv_iload X.1 X.2.1 dX5_off_131 (lv_at hl 1 rfl) ?_
                    refine lv_istore (lv' := [(4, .int r14), (3, .int v5_6), (6, .int r14), (0, .ref (qa 0)), (1, .int p1), (2, .int p2), (5, .int v5_6)]) X.1 X.2.1 dX5_off_133 hl (by decide) rfl (fun ls hl => ?_)
                    obtain ⟨x18, ex18, hf⟩ := nm_of hf
                    refine lv_iinc (v := x18) (lv' := [(5, .int x18), (4, .int r14), (3, .int v5_6), (6, .int r14), (0, .ref (qa 0)), (1, .int p1), (2, .int p2)]) X.1 X.2.1 dX5_off_135 hl (k := 6) rfl (by rw [ex18]; rfl) (by decide) rfl (fun ls hl => ?_)
                    refine lv_goto (tgt := 43) X.1 X.2.1 dX5_off_138 (by decide) ?_
                    exact ih6 v5_6 r14 x18 (upd (upd wr_t_6 (Int32.toNatClampNeg v5_6) (-4)) (Int32.toNatClampNeg v5_6) (wr_n (Int32.toNatClampNeg v5_6))) _ _ _ _ hf hP hS hG_x hG_n hG_t hfr (lv_sub hl [4, 5, 6, 2, 1, 0] rfl)
                  · have hf := ifn hf c17
                    refine lv_iload X.1 X.2.1 dX5_off_121 (lv_at hl 0 rfl) ?_
                    refine lv_iload X.1 X.2.1 dX5_off_123 (lv_at hl 5 rfl) ?_
                    refine lv_icmp_ge (tgt := 135) X.1 X.2.1 dX5_off_125 (by decide) (fun c19 => ?_) (fun c19 => ?_)
                    · have hf := ifp hf c19
                      obtain ⟨x20, ex20, hf⟩ := nm_of hf
                      refine lv_iinc (v := x20) (lv' := [(5, .int x20), (6, .int r14), (0, .ref (qa 0)), (1, .int p1), (2, .int p2), (3, .int v3_6), (4, .int v4_6)]) X.1 X.2.1 dX5_off_135 hl (k := 6) rfl (by rw [ex20]; rfl) (by decide) rfl (fun ls hl => ?_)
                      refine lv_goto (tgt := 43) X.1 X.2.1 dX5_off_138 (by decide) ?_
                      exact ih6 v3_6 v4_6 x20 (upd (upd wr_t_6 (Int32.toNatClampNeg v5_6) (-4)) (Int32.toNatClampNeg v5_6) (wr_n (Int32.toNatClampNeg v5_6))) _ _ _ _ hf hP hS hG_x hG_n hG_t hfr (lv_sub hl [2, 3, 4, 5, 6, 0] rfl)
                    · have hf := ifn hf c19
                      refine lv_iload X.1 X.2.1 dX5_off_128 (lv_at hl 6 rfl) ?_
                      refine lv_istore_n (lv' := [(3, .int v5_6), (6, .int r14), (0, .ref (qa 0)), (1, .int p1), (2, .int p2), (4, .int v4_6), (5, .int v5_6)]) X.1 X.2.1 dX5_off_130 rfl hl (by decide) rfl (fun ls hl => ?_)
                      refine lv_iload X.1 X.2.1 dX5_off_131 (lv_at hl 1 rfl) ?_
                      refine lv_istore (lv' := [(4, .int r14), (3, .int v5_6), (6, .int r14), (0, .ref (qa 0)), (1, .int p1), (2, .int p2), (5, .int v5_6)]) X.1 X.2.1 dX5_off_133 hl (by decide) rfl (fun ls hl => ?_)
                      obtain ⟨x21, ex21, hf⟩ := nm_of hf
                      refine lv_iinc (v := x21) (lv' := [(5, .int x21), (4, .int r14), (3, .int v5_6), (6, .int r14), (0, .ref (qa 0)), (1, .int p1), (2, .int p2)]) X.1 X.2.1 dX5_off_135 hl (k := 6) rfl (by rw [ex21]; rfl) (by decide) rfl (fun ls hl => ?_)
                      refine lv_goto (tgt := 43) X.1 X.2.1 dX5_off_138 (by decide) ?_
                      exact ih6 v5_6 r14 x21 (upd (upd wr_t_6 (Int32.toNatClampNeg v5_6) (-4)) (Int32.toNatClampNeg v5_6) (wr_n (Int32.toNatClampNeg v5_6))) _ _ _ _ hf hP hS hG_x hG_n hG_t hfr (lv_sub hl [4, 5, 6, 2, 1, 0] rfl)
          exact lp6 FU (-4) (-4) 0 r5.2.2.2.2.2.2.2.2.2 _ _ _ _ hf hP hS hG_x hG_n hG_t hfr (lv_sub hl [3, 4, 5, 2, 1, 0] rfl)
        · have hf := ifn hf c4
          refine lv_iconst (v := (-1)) X.1 X.2.1 dX5_off_20 (by decide) ?_
          obtain rfl := Option.some.inj hf
          exact hret _ _ _ _ _ _ dX5_off_21 rfl rfl (⟨hG_t, hfr⟩) hP hS
def fX5_polish (p1 : Int32) (p2 : Int32)  (md_n : Int32) (day_n : Int32) (drw_n : Int32) (st_n : Nat → Int32) (we_n : Nat → Int32) (wr_n : Nat → Int32) (kn_p : Int32) (nx_p : Int32) (ke_p : Nat → Nat → Int32) : Option (Int32 × (Nat → Int32) × Int32 × Int32 × (Nat → Nat → Int32)) := (fX1_hasMedal p1 md_n).bind (fun r1 => if r1 = 0 then (some ((-1), we_n, kn_p, nx_p, ke_p)) else (if p2 < 1 then (some ((-1), we_n, kn_p, nx_p, ke_p)) else (if p2 ≤ 20 then (gin p1 6 (if (we_n (Int32.toNatClampNeg p1)) < 20 then ((fX2_keep kn_p nx_p ke_p day_n drw_n st_n we_n wr_n).bind (fun r7 => gin p1 6 (gin p1 6 (gin p1 6 (some ((upd we_n (Int32.toNatClampNeg p1) (if ((we_n (Int32.toNatClampNeg p1)) + p2) < 20 then (we_n (Int32.toNatClampNeg p1)) + p2 else 20)) (Int32.toNatClampNeg p1), upd we_n (Int32.toNatClampNeg p1) (if ((we_n (Int32.toNatClampNeg p1)) + p2) < 20 then (we_n (Int32.toNatClampNeg p1)) + p2 else 20), r7.1, r7.2.1, r7.2.2)))))) else (some ((-2), we_n, kn_p, nx_p, ke_p)))) else (some ((-1), we_n, kn_p, nx_p, ke_p)))))
theorem in_X5_polish_X1 : ∀ w ∈ wsX10, w ∈ wsX5_polish := by decide +kernel
theorem in_X5_polish_X5 : ∀ w ∈ wsX50, w ∈ wsX5_polish := by decide +kernel
set_option maxHeartbeats 4000000 in
set_option maxRecDepth 100000 in
theorem ct_X5_polish {l : Launch} {D : va_G} {g : Nat → ClassId} {qa : Nat → Nat} {E0 : Nat → va_E} {p1 : Int32} {p2 : Int32} {img_x : Int32} {men_n : Int32} {md_n : Int32} {day_n : Int32} {drw_n : Int32} {bu_n : Nat → Int32} {st_n : Nat → Int32} {ki_n : Nat → Int32} {we_n : Nat → Int32} {wo_n : Nat → Int32} {wr_n : Nat → Int32} {kn_p : Int32} {nx_p : Int32} {ke_p : Nat → Nat → Int32} (hG_x : Xo g qa E0 0 img_x) (hG_n : Mu g qa E0 1 men_n md_n day_n drw_n bu_n st_n ki_n we_n wo_n wr_n) (hG_p : Pa g qa E0 8 kn_p nx_p ke_p) {R : (Int32 × (Nat → Int32) × Int32 × Int32 × (Nat → Nat → Int32))} (hf : fX5_polish p1 p2 md_n day_n drw_n st_n we_n wr_n kn_p nx_p ke_p = some R) : MI l yX5_polish wsX5_polish 2 D g qa E0 [.ref (qa 0), .int p1, .int p2] R.1 (fun E => Mu g qa E 1 men_n md_n day_n drw_n bu_n st_n ki_n R.2.1 wo_n wr_n ∧ Pa g qa E 8 R.2.2.1 R.2.2.2.1 R.2.2.2.2 ∧ ∀ j, (j < 1 ∨ 8 ≤ j) → (j < 8 ∨ 18 ≤ j) → E j = E0 j) := by
  refine MI.mk (by decide) rfl (Nat.le_of_ble_eq_true rfl) ?_
  intro p e s m args below meth c ls Q X hret hP hS hl
  have hl : lv_has ls 3 [(0, .ref (qa 0)), (1, .int p1), (2, .int p2)] := hl
  have hfr : ∀ j, (j < 1 ∨ 8 ≤ j) → (j < 8 ∨ 18 ≤ j) → E0 j = E0 j := fun _ _ _ => rfl
  rw [fX5_polish] at hf
  refine lv_aload_n X.1 X.2.1 dX5_polish_0 rfl (lv_at hl 0 rfl) ?_
  refine x_get X hP hG_x (by omega) rfl in_X5_polish_X5 0 (by decide) (by decide +kernel) rfl rfl dX5_polish_1 ?_
  refine lv_iload_n X.1 X.2.1 dX5_polish_4 rfl (lv_at hl 1 rfl) ?_
  obtain ⟨r1, hr1, hf⟩ := bd_of hf
  refine x_rdVi X hP hS hG_n.1 (by omega) rfl (n := 1) (As := [.int p1]) (ct_X1_hasMedal (by omega) hG_n hr1) gX5_polish_X1_hasMedal rfl (by decide +kernel) ⟨by decide, by decide⟩ rfl hl.1 rfl (Nat.le_of_ble_eq_true rfl) dX5_polish_5 (fun H locs hP hS => ?_)
  refine lv_if_eq (tgt := 22) X.1 X.2.1 dX5_polish_8 (by decide) (fun c2 => ?_) (fun c2 => ?_)
  · have hf := ifp hf c2
    refine lv_iconst (v := (-1)) X.1 X.2.1 dX5_polish_22 (by decide) ?_
    obtain rfl := Option.some.inj hf
    exact hret _ _ _ _ _ _ dX5_polish_23 rfl rfl (⟨hG_n, hG_p, hfr⟩) hP hS
  · have hf := ifn hf c2
    refine lv_iload_n X.1 X.2.1 dX5_polish_11 rfl (lv_at hl 2 rfl) ?_
    refine lv_iconst (v := 1) X.1 X.2.1 dX5_polish_12 (by decide) ?_
    refine lv_icmp_lt (tgt := 22) X.1 X.2.1 dX5_polish_13 (by decide) (fun c3 => ?_) (fun c3 => ?_)
    · have hf := ifp hf c3
      refine lv_iconst (v := (-1)) X.1 X.2.1 dX5_polish_22 (by decide) ?_
      obtain rfl := Option.some.inj hf
      exact hret _ _ _ _ _ _ dX5_polish_23 rfl rfl (⟨hG_n, hG_p, hfr⟩) hP hS
    · have hf := ifn hf c3
      refine lv_iload_n X.1 X.2.1 dX5_polish_16 rfl (lv_at hl 2 rfl) ?_
      refine lv_bipush (v := 20) X.1 X.2.1 dX5_polish_17 (by decide) ?_
      refine lv_icmp_le (tgt := 24) X.1 X.2.1 dX5_polish_19 (by decide) (fun c4 => ?_) (fun c4 => ?_)
      · have hf := ifp hf c4
        refine lv_aload_n X.1 X.2.1 dX5_polish_24 rfl (lv_at hl 0 rfl) ?_
        refine x_get X hP hG_x (by omega) rfl in_X5_polish_X5 0 (by decide) (by decide +kernel) rfl rfl dX5_polish_25 ?_
        refine x_get X hP hG_n.1 (by omega) rfl in_X5_polish_X1 5 (by decide) (by decide +kernel) rfl rfl dX5_polish_28 ?_
        refine lv_iload_n X.1 X.2.1 dX5_polish_31 rfl (lv_at hl 1 rfl) ?_
        obtain ⟨hi5, hf⟩ := gin_of hf
        refine x_iald X hP hG_n.2.2.2.2.1 (by omega) hi5 dX5_polish_32 ?_
        refine lv_bipush (v := 20) X.1 X.2.1 dX5_polish_33 (by decide) ?_
        refine lv_icmp_lt (tgt := 41) X.1 X.2.1 dX5_polish_35 (by decide) (fun c6 => ?_) (fun c6 => ?_)
        · have hf := ifp hf c6
          refine lv_aload_n X.1 X.2.1 dX5_polish_41 rfl (lv_at hl 0 rfl) ?_
          refine x_get X hP hG_x (by omega) rfl in_X5_polish_X5 1 (by decide) (by decide +kernel) rfl rfl dX5_polish_42 ?_
          refine lv_aload_n X.1 X.2.1 dX5_polish_45 rfl (lv_at hl 0 rfl) ?_
          refine x_get X hP hG_x (by omega) rfl in_X5_polish_X5 0 (by decide) (by decide +kernel) rfl rfl dX5_polish_46 ?_
          obtain ⟨r7, hr7, hf⟩ := bd_of hf
          refine x_callVv X hP hS hG_p.1 (by omega) rfl (n := 1) (As := [.ref (qa 1)]) (ct_X2_keep hG_p hG_n hr7) gX5_polish_X2_keep rfl (by decide +kernel) ⟨by decide, by decide⟩ rfl hl.1 rfl (Nat.le_of_ble_eq_true rfl) dX5_polish_49 (fun E H locs hp hP hS => ?_)
          obtain ⟨hW_p, hk⟩ := hp
          have hG_p := hW_p
          have hG_x := Xo_kept hG_x (fun j h8 h9 => hk j (by omega))
          have hG_n := Mu_kept hG_n (fun j h8 h9 => hk j (by omega))
          have hfr : ∀ j, (j < 1 ∨ 8 ≤ j) → (j < 8 ∨ 18 ≤ j) → E j = E0 j := fun j o0 o1 => (hk j (by omega)).trans (hfr j o0 o1)
          refine lv_aload_n X.1 X.2.1 dX5_polish_52 rfl (lv_at hl 0 rfl) ?_
          refine x_get X hP hG_x (by omega) rfl in_X5_polish_X5 0 (by decide) (by decide +kernel) rfl rfl dX5_polish_53 ?_
          refine x_get X hP hG_n.1 (by omega) rfl in_X5_polish_X1 5 (by decide) (by decide +kernel) rfl rfl dX5_polish_56 ?_
          refine lv_iload_n X.1 X.2.1 dX5_polish_59 rfl (lv_at hl 1 rfl) ?_
          refine lv_bipush (v := 20) X.1 X.2.1 dX5_polish_60 (by decide) ?_
          refine lv_aload_n X.1 X.2.1 dX5_polish_62 rfl (lv_at hl 0 rfl) ?_
          refine x_get X hP hG_x (by omega) rfl in_X5_polish_X5 0 (by decide) (by decide +kernel) rfl rfl dX5_polish_63 ?_
          refine x_get X hP hG_n.1 (by omega) rfl in_X5_polish_X1 5 (by decide) (by decide +kernel) rfl rfl dX5_polish_66 ?_
          refine lv_iload_n X.1 X.2.1 dX5_polish_69 rfl (lv_at hl 1 rfl) ?_
          obtain ⟨hi8, hf⟩ := gin_of hf
          refine x_iald X hP hG_n.2.2.2.2.1 (by omega) hi8 dX5_polish_70 ?_
          refine lv_iload_n X.1 X.2.1 dX5_polish_71 rfl (lv_at hl 2 rfl) ?_
          refine lv_iadd X.1 X.2.1 dX5_polish_72 ?_
          refine x_min X (index := 165) (by decide +kernel) (by decide +kernel) (by decide +kernel) (by decide +kernel) hl.1 (by decide) (Nat.le_of_ble_eq_true rfl) dX5_polish_73 ?_
          obtain ⟨hi9, hf⟩ := gin_of hf
          refine x_iast X hP hS hG_n.2.2.2.2.1 (by omega) hi9 dX5_polish_76 (fun E H locs h1 hk hP hS => ?_)
          have hG_n := Mu_set_4 hG_n h1 hk
          have hG_x := Xo_kept hG_x (fun j h8 h9 => hk j (by omega))
          have hG_p := Pa_kept hG_p (fun j h8 h9 => hk j (by omega))
          have hfr : ∀ j, (j < 1 ∨ 8 ≤ j) → (j < 8 ∨ 18 ≤ j) → E j = E0 j := fun j o0 o1 => (hk j (by omega)).trans (hfr j o0 o1)
          refine lv_aload_n X.1 X.2.1 dX5_polish_77 rfl (lv_at hl 0 rfl) ?_
          refine x_get X hP hG_x (by omega) rfl in_X5_polish_X5 0 (by decide) (by decide +kernel) rfl rfl dX5_polish_78 ?_
          refine x_get X hP hG_n.1 (by omega) rfl in_X5_polish_X1 5 (by decide) (by decide +kernel) rfl rfl dX5_polish_81 ?_
          refine lv_iload_n X.1 X.2.1 dX5_polish_84 rfl (lv_at hl 1 rfl) ?_
          obtain ⟨hi10, hf⟩ := gin_of hf
          refine x_iald X hP hG_n.2.2.2.2.1 (by omega) hi10 dX5_polish_85 ?_
          obtain rfl := Option.some.inj hf
          exact hret _ _ _ _ _ _ dX5_polish_86 rfl rfl (⟨hG_n, hG_p, hfr⟩) hP hS
        · have hf := ifn hf c6
          refine lv_bipush (v := (-2)) X.1 X.2.1 dX5_polish_38 (by decide) ?_
          obtain rfl := Option.some.inj hf
          exact hret _ _ _ _ _ _ dX5_polish_40 rfl rfl (⟨hG_n, hG_p, hfr⟩) hP hS
      · have hf := ifn hf c4
        refine lv_iconst (v := (-1)) X.1 X.2.1 dX5_polish_22 (by decide) ?_
        obtain rfl := Option.some.inj hf
        exact hret _ _ _ _ _ _ dX5_polish_23 rfl rfl (⟨hG_n, hG_p, hfr⟩) hP hS
def fX5_restore   (img_x : Int32) (men_n : Int32) (md_n : Int32) (day_n : Int32) (drw_n : Int32) (bu_n : Nat → Int32) (st_n : Nat → Int32) (ki_n : Nat → Int32) (we_n : Nat → Int32) (wo_n : Nat → Int32) (wr_n : Nat → Int32) (kn_p : Int32) (nx_p : Int32) (ke_p : Nat → Nat → Int32) (men_a : Int32) (md_a : Int32) (day_a : Int32) (drw_a : Int32) (bu_a : Nat → Int32) (st_a : Nat → Int32) (ki_a : Nat → Int32) (we_a : Nat → Int32) (wo_a : Nat → Int32) (wr_a : Nat → Int32) (kn_q : Int32) (nx_q : Int32) (ke_q : Nat → Nat → Int32) : Option (Int32 × Int32 × Int32 × Int32 × Int32 × (Nat → Int32) × (Nat → Int32) × (Nat → Int32) × (Nat → Int32) × (Nat → Int32) × (Nat → Int32) × Int32 × Int32 × (Nat → Nat → Int32)) := if img_x = 0 then (some ((-4), men_n, md_n, day_n, drw_n, bu_n, st_n, ki_n, we_n, wo_n, wr_n, kn_p, nx_p, ke_p)) else ((fX1_take bu_n st_n ki_n we_n wo_n wr_n men_a md_a day_a drw_a bu_a st_a ki_a we_a wo_a wr_a).bind (fun r2 => (fX2_take ke_p kn_q nx_q ke_q).bind (fun r3 => some (1, r2.1, r2.2.1, r2.2.2.1, r2.2.2.2.1, r2.2.2.2.2.1, r2.2.2.2.2.2.1, r2.2.2.2.2.2.2.1, r2.2.2.2.2.2.2.2.1, r2.2.2.2.2.2.2.2.2.1, r2.2.2.2.2.2.2.2.2.2, r3.1, r3.2.1, r3.2.2))))
theorem in_X5_restore_X5 : ∀ w ∈ wsX50, w ∈ wsX5_restore := by decide +kernel
set_option maxHeartbeats 4000000 in
set_option maxRecDepth 100000 in
theorem ct_X5_restore {l : Launch} {D : va_G} {g : Nat → ClassId} {qa : Nat → Nat} {E0 : Nat → va_E} {img_x : Int32} {men_n : Int32} {md_n : Int32} {day_n : Int32} {drw_n : Int32} {bu_n : Nat → Int32} {st_n : Nat → Int32} {ki_n : Nat → Int32} {we_n : Nat → Int32} {wo_n : Nat → Int32} {wr_n : Nat → Int32} {kn_p : Int32} {nx_p : Int32} {ke_p : Nat → Nat → Int32} {men_a : Int32} {md_a : Int32} {day_a : Int32} {drw_a : Int32} {bu_a : Nat → Int32} {st_a : Nat → Int32} {ki_a : Nat → Int32} {we_a : Nat → Int32} {wo_a : Nat → Int32} {wr_a : Nat → Int32} {kn_q : Int32} {nx_q : Int32} {ke_q : Nat → Nat → Int32} (hG_x : Xo g qa E0 0 img_x) (hG_n : Mu g qa E0 1 men_n md_n day_n drw_n bu_n st_n ki_n we_n wo_n wr_n) (hG_p : Pa g qa E0 8 kn_p nx_p ke_p) (hG_a : Mu g qa E0 18 men_a md_a day_a drw_a bu_a st_a ki_a we_a wo_a wr_a) (hG_q : Pa g qa E0 25 kn_q nx_q ke_q) {R : (Int32 × Int32 × Int32 × Int32 × Int32 × (Nat → Int32) × (Nat → Int32) × (Nat → Int32) × (Nat → Int32) × (Nat → Int32) × (Nat → Int32) × Int32 × Int32 × (Nat → Nat → Int32))} (hf : fX5_restore img_x men_n md_n day_n drw_n bu_n st_n ki_n we_n wo_n wr_n kn_p nx_p ke_p men_a md_a day_a drw_a bu_a st_a ki_a we_a wo_a wr_a kn_q nx_q ke_q = some R) : MI l yX5_restore wsX5_restore 2 D g qa E0 [.ref (qa 0)] R.1 (fun E => Mu g qa E 1 R.2.1 R.2.2.1 R.2.2.2.1 R.2.2.2.2.1 R.2.2.2.2.2.1 R.2.2.2.2.2.2.1 R.2.2.2.2.2.2.2.1 R.2.2.2.2.2.2.2.2.1 R.2.2.2.2.2.2.2.2.2.1 R.2.2.2.2.2.2.2.2.2.2.1 ∧ Pa g qa E 8 R.2.2.2.2.2.2.2.2.2.2.2.1 R.2.2.2.2.2.2.2.2.2.2.2.2.1 R.2.2.2.2.2.2.2.2.2.2.2.2.2 ∧ ∀ j, (j < 1 ∨ 8 ≤ j) → (j < 8 ∨ 18 ≤ j) → E j = E0 j) := by
  refine MI.mk (by decide) rfl (Nat.le_of_ble_eq_true rfl) ?_
  intro p e s m args below meth c ls Q X hret hP hS hl
  have hl : lv_has ls 1 [(0, .ref (qa 0))] := hl
  have hfr : ∀ j, (j < 1 ∨ 8 ≤ j) → (j < 8 ∨ 18 ≤ j) → E0 j = E0 j := fun _ _ _ => rfl
  rw [fX5_restore] at hf
  refine lv_aload_n X.1 X.2.1 dX5_restore_0 rfl (lv_at hl 0 rfl) ?_
  refine x_get X hP hG_x (by omega) rfl in_X5_restore_X5 4 (by decide) (by decide +kernel) rfl rfl dX5_restore_1 ?_
  refine lv_if_ne (tgt := 10) X.1 X.2.1 dX5_restore_4 (by decide) (fun c1 => ?_) (fun c1 => ?_)
  · have hf := ifn hf c1
    refine lv_aload_n X.1 X.2.1 dX5_restore_10 rfl (lv_at hl 0 rfl) ?_
    refine x_get X hP hG_x (by omega) rfl in_X5_restore_X5 0 (by decide) (by decide +kernel) rfl rfl dX5_restore_11 ?_
    refine lv_aload_n X.1 X.2.1 dX5_restore_14 rfl (lv_at hl 0 rfl) ?_
    refine x_get X hP hG_x (by omega) rfl in_X5_restore_X5 2 (by decide) (by decide +kernel) rfl rfl dX5_restore_15 ?_
    obtain ⟨r2, hr2, hf⟩ := bd_of hf
    refine x_callVv X hP hS hG_n.1 (by omega) rfl (n := 1) (As := [.ref (qa 18)]) (ct_X1_take (by omega) hG_n (by omega) hG_a (by omega) hr2) gX5_restore_X1_take rfl (by decide +kernel) ⟨by decide, by decide⟩ rfl hl.1 rfl (Nat.le_of_ble_eq_true rfl) dX5_restore_18 (fun E H locs hp hP hS => ?_)
    obtain ⟨hW_n, hk⟩ := hp
    have hG_n := hW_n
    have hG_x := Xo_kept hG_x (fun j h8 h9 => hk j (by omega))
    have hG_p := Pa_kept hG_p (fun j h8 h9 => hk j (by omega))
    have hG_a := Mu_kept hG_a (fun j h8 h9 => hk j (by omega))
    have hG_q := Pa_kept hG_q (fun j h8 h9 => hk j (by omega))
    have hfr : ∀ j, (j < 1 ∨ 8 ≤ j) → (j < 8 ∨ 18 ≤ j) → E j = E0 j := fun j o0 o1 => (hk j (by omega)).trans (hfr j o0 o1)
    refine lv_aload_n X.1 X.2.1 dX5_restore_21 rfl (lv_at hl 0 rfl) ?_
    refine x_get X hP hG_x (by omega) rfl in_X5_restore_X5 1 (by decide) (by decide +kernel) rfl rfl dX5_restore_22 ?_
    refine lv_aload_n X.1 X.2.1 dX5_restore_25 rfl (lv_at hl 0 rfl) ?_
    refine x_get X hP hG_x (by omega) rfl in_X5_restore_X5 3 (by decide) (by decide +kernel) rfl rfl dX5_restore_26 ?_
    obtain ⟨r3, hr3, hf⟩ := bd_of hf
    refine x_callVv X hP hS hG_p.1 (by omega) rfl (n := 1) (As := [.ref (qa 25)]) (ct_X2_take (by omega) hG_p (by omega) hG_q (by omega) hr3) gX5_restore_X2_take rfl (by decide +kernel) ⟨by decide, by decide⟩ rfl hl.1 rfl (Nat.le_of_ble_eq_true rfl) dX5_restore_29 (fun E H locs hp hP hS => ?_)
    obtain ⟨hW_p, hk⟩ := hp
    have hG_p := hW_p
    have hG_x := Xo_kept hG_x (fun j h8 h9 => hk j (by omega))
    have hG_n := Mu_kept hG_n (fun j h8 h9 => hk j (by omega))
    have hG_a := Mu_kept hG_a (fun j h8 h9 => hk j (by omega))
    have hG_q := Pa_kept hG_q (fun j h8 h9 => hk j (by omega))
    have hfr : ∀ j, (j < 1 ∨ 8 ≤ j) → (j < 8 ∨ 18 ≤ j) → E j = E0 j := fun j o0 o1 => (hk j (by omega)).trans (hfr j o0 o1)
    refine lv_iconst (v := 1) X.1 X.2.1 dX5_restore_32 (by decide) ?_
    obtain rfl := Option.some.inj hf
    exact hret _ _ _ _ _ _ dX5_restore_33 rfl rfl (⟨hG_n, hG_p, hfr⟩) hP hS
  · have hf := ifp hf c1
    refine lv_bipush (v := (-4)) X.1 X.2.1 dX5_restore_7 (by decide) ?_
    obtain rfl := Option.some.inj hf
    exact hret _ _ _ _ _ _ dX5_restore_9 rfl rfl (⟨hG_n, hG_p, hfr⟩) hP hS
def fX5_seed (p1 : Int32)  (drw_n : Int32) : Option (Int32 × Int32) := if 0 ≤ p1 then (some (drw_n, p1)) else (some ((-1), drw_n))
theorem in_X5_seed_X1 : ∀ w ∈ wsX10, w ∈ wsX5_seed := by decide +kernel
theorem in_X5_seed_X5 : ∀ w ∈ wsX50, w ∈ wsX5_seed := by decide +kernel
set_option maxHeartbeats 4000000 in
set_option maxRecDepth 100000 in
theorem ct_X5_seed {l : Launch} {D : va_G} {g : Nat → ClassId} {qa : Nat → Nat} {E0 : Nat → va_E} {p1 : Int32} {img_x : Int32} {men_n : Int32} {md_n : Int32} {day_n : Int32} {drw_n : Int32} {bu_n : Nat → Int32} {st_n : Nat → Int32} {ki_n : Nat → Int32} {we_n : Nat → Int32} {wo_n : Nat → Int32} {wr_n : Nat → Int32} (hG_x : Xo g qa E0 0 img_x) (hG_n : Mu g qa E0 1 men_n md_n day_n drw_n bu_n st_n ki_n we_n wo_n wr_n) {R : (Int32 × Int32)} (hf : fX5_seed p1 drw_n = some R) : MI l yX5_seed wsX5_seed 0 D g qa E0 [.ref (qa 0), .int p1] R.1 (fun E => Mu g qa E 1 men_n md_n day_n R.2 bu_n st_n ki_n we_n wo_n wr_n ∧ ∀ j, (j < 1 ∨ 8 ≤ j) → E j = E0 j) := by
  refine MI.mk (by decide) rfl (Nat.le_of_ble_eq_true rfl) ?_
  intro p e s m args below meth c ls Q X hret hP hS hl
  have hl : lv_has ls 3 [(0, .ref (qa 0)), (1, .int p1)] := hl
  have hfr : ∀ j, (j < 1 ∨ 8 ≤ j) → E0 j = E0 j := fun _ _ => rfl
  rw [fX5_seed] at hf
  refine lv_iload_n X.1 X.2.1 dX5_seed_0 rfl (lv_at hl 1 rfl) ?_
  refine lv_if_ge (tgt := 6) X.1 X.2.1 dX5_seed_1 (by decide) (fun c1 => ?_) (fun c1 => ?_)
  · have hf := ifp hf c1
    refine lv_aload_n X.1 X.2.1 dX5_seed_6 rfl (lv_at hl 0 rfl) ?_
    refine x_get X hP hG_x (by omega) rfl in_X5_seed_X5 0 (by decide) (by decide +kernel) rfl rfl dX5_seed_7 ?_
    refine x_get X hP hG_n.1 (by omega) rfl in_X5_seed_X1 9 (by decide) (by decide +kernel) rfl rfl dX5_seed_10 ?_
    refine lv_istore_n (lv' := [(2, .int drw_n), (0, .ref (qa 0)), (1, .int p1)]) X.1 X.2.1 dX5_seed_13 rfl hl (by decide) rfl (fun ls hl => ?_)
    refine lv_aload_n X.1 X.2.1 dX5_seed_14 rfl (lv_at hl 1 rfl) ?_
    refine x_get X hP hG_x (by omega) rfl in_X5_seed_X5 0 (by decide) (by decide +kernel) rfl rfl dX5_seed_15 ?_
    refine lv_iload_n X.1 X.2.1 dX5_seed_18 rfl (lv_at hl 2 rfl) ?_
    refine x_put (ty := .int) X hP hS hG_n.1 (by omega) rfl in_X5_seed_X1 tyX1 tyX1_ok nmX1 9 (by decide) (by decide +kernel) rfl rfl (by decide +kernel) rfl rfl (Nat.le_of_ble_eq_true rfl) dX5_seed_19 (fun E H locs h1 hk hP hS => ?_)
    have hG_n := Mu_set_0 hG_n h1 hk
    have hG_x := Xo_kept hG_x (fun j h8 h9 => hk j (by omega))
    have hfr : ∀ j, (j < 1 ∨ 8 ≤ j) → E j = E0 j := fun j o0 => (hk j (by omega)).trans (hfr j o0)
    refine lv_iload_n X.1 X.2.1 dX5_seed_22 rfl (lv_at hl 0 rfl) ?_
    obtain rfl := Option.some.inj hf
    exact hret _ _ _ _ _ _ dX5_seed_23 rfl rfl (⟨hG_n, hfr⟩) hP hS
  · have hf := ifn hf c1
    refine lv_iconst (v := (-1)) X.1 X.2.1 dX5_seed_4 (by decide) ?_
    obtain rfl := Option.some.inj hf
    exact hret _ _ _ _ _ _ dX5_seed_5 rfl rfl (⟨hG_n, hfr⟩) hP hS
def fX5_sheet (p1 : Int32) (p2 : Int32) (p3 : Int32)  (th_r : Nat → Int32) (lan_r : Nat → Int32) (siz_r : Nat → Int32) (itm_r : Nat → Nat → Int64) : Option (Int32 × (Nat → Int32) × (Nat → Int32) × (Nat → Int32) × (Nat → Nat → Int64)) := (fX5_isSheet p1).bind (fun r1 => if r1 = 0 then (some ((-1), th_r, lan_r, siz_r, itm_r)) else ((fX5_isLane p2).bind (fun r3 => if r3 = 0 then (some ((-1), th_r, lan_r, siz_r, itm_r)) else (if p3 ≤ 24 then (if 0 ≤ p3 then (gin p1 4 ((fX3_begin p2 p3 (itm_r (Int32.toNatClampNeg p1))).bind (fun r9 => some (p3, va_up th_r (Int32.toNatClampNeg p1) r9.1, va_up lan_r (Int32.toNatClampNeg p1) r9.2.1, va_up siz_r (Int32.toNatClampNeg p1) r9.2.2.1, va_up itm_r (Int32.toNatClampNeg p1) r9.2.2.2)))) else (some ((-14), th_r, lan_r, siz_r, itm_r))) else (some ((-1), th_r, lan_r, siz_r, itm_r))))))
theorem in_X5_sheet_X5 : ∀ w ∈ wsX50, w ∈ wsX5_sheet := by decide +kernel
set_option maxHeartbeats 4000000 in
set_option maxRecDepth 100000 in
theorem ct_X5_sheet {l : Launch} {D : va_G} {g : Nat → ClassId} {qa : Nat → Nat} {E0 : Nat → va_E} {p1 : Int32} {p2 : Int32} {p3 : Int32} {img_x : Int32} {th_r : Nat → Int32} {lan_r : Nat → Int32} {siz_r : Nat → Int32} {itm_r : Nat → Nat → Int64} (hG_x : Xo g qa E0 0 img_x) (hG_r : Rs g qa E0 55 th_r lan_r siz_r itm_r) {R : (Int32 × (Nat → Int32) × (Nat → Int32) × (Nat → Int32) × (Nat → Nat → Int64))} (hf : fX5_sheet p1 p2 p3 th_r lan_r siz_r itm_r = some R) : MI l yX5_sheet wsX5_sheet 1 D g qa E0 [.ref (qa 0), .int p1, .int p2, .int p3] R.1 (fun E => Rs g qa E 55 R.2.1 R.2.2.1 R.2.2.2.1 R.2.2.2.2 ∧ ∀ j, (j < 55 ∨ 64 ≤ j) → E j = E0 j) := by
  refine MI.mk (by decide) rfl (Nat.le_of_ble_eq_true rfl) ?_
  intro p e s m args below meth c ls Q X hret hP hS hl
  have hl : lv_has ls 4 [(0, .ref (qa 0)), (1, .int p1), (2, .int p2), (3, .int p3)] := hl
  have hfr : ∀ j, (j < 55 ∨ 64 ≤ j) → E0 j = E0 j := fun _ _ => rfl
  rw [fX5_sheet] at hf
  refine lv_iload_n X.1 X.2.1 dX5_sheet_0 rfl (lv_at hl 1 rfl) ?_
  obtain ⟨r1, hr1, hf⟩ := bd_of hf
  refine x_rdSi X hP hS (index := 235) (n := 1) (As := [.int p1]) (ct_X5_isSheet  hr1) ggX5_sheet_X5_isSheet (by decide +kernel) (by decide +kernel) (by decide +kernel) rfl (by decide +kernel) ⟨by decide, by decide⟩ rfl hl.1 rfl (Nat.le_of_ble_eq_true rfl) dX5_sheet_1 (fun H locs hP hS => ?_)
  refine lv_if_eq (tgt := 20) X.1 X.2.1 dX5_sheet_4 (by decide) (fun c2 => ?_) (fun c2 => ?_)
  · have hf := ifp hf c2
    refine lv_iconst (v := (-1)) X.1 X.2.1 dX5_sheet_20 (by decide) ?_
    obtain rfl := Option.some.inj hf
    exact hret _ _ _ _ _ _ dX5_sheet_21 rfl rfl (⟨hG_r, hfr⟩) hP hS
  · have hf := ifn hf c2
    refine lv_iload_n X.1 X.2.1 dX5_sheet_7 rfl (lv_at hl 2 rfl) ?_
    obtain ⟨r3, hr3, hf⟩ := bd_of hf
    refine x_rdSi X hP hS (index := 238) (n := 1) (As := [.int p2]) (ct_X5_isLane  hr3) ggX5_sheet_X5_isLane (by decide +kernel) (by decide +kernel) (by decide +kernel) rfl (by decide +kernel) ⟨by decide, by decide⟩ rfl hl.1 rfl (Nat.le_of_ble_eq_true rfl) dX5_sheet_8 (fun H locs hP hS => ?_)
    refine lv_if_eq (tgt := 20) X.1 X.2.1 dX5_sheet_11 (by decide) (fun c4 => ?_) (fun c4 => ?_)
    · have hf := ifp hf c4
      refine lv_iconst (v := (-1)) X.1 X.2.1 dX5_sheet_20 (by decide) ?_
      obtain rfl := Option.some.inj hf
      exact hret _ _ _ _ _ _ dX5_sheet_21 rfl rfl (⟨hG_r, hfr⟩) hP hS
    · have hf := ifn hf c4
      refine lv_iload_n X.1 X.2.1 dX5_sheet_14 rfl (lv_at hl 3 rfl) ?_
      refine lv_bipush (v := 24) X.1 X.2.1 dX5_sheet_15 (by decide) ?_
      refine lv_icmp_le (tgt := 22) X.1 X.2.1 dX5_sheet_17 (by decide) (fun c5 => ?_) (fun c5 => ?_)
      · have hf := ifp hf c5
        refine lv_iload_n X.1 X.2.1 dX5_sheet_22 rfl (lv_at hl 3 rfl) ?_
        refine lv_if_ge (tgt := 29) X.1 X.2.1 dX5_sheet_23 (by decide) (fun c6 => ?_) (fun c6 => ?_)
        · have hf := ifp hf c6
          refine lv_aload_n X.1 X.2.1 dX5_sheet_29 rfl (lv_at hl 0 rfl) ?_
          refine x_get X hP hG_x (by omega) rfl in_X5_sheet_X5 8 (by decide) (by decide +kernel) rfl rfl dX5_sheet_30 ?_
          refine lv_iload_n X.1 X.2.1 dX5_sheet_33 rfl (lv_at hl 1 rfl) ?_
          obtain ⟨hi7, hf⟩ := gin_of hf
          have hj8 := in_lt hi7
          refine x_aald X hP 4 rfl rfl hG_r.1 (by omega) hi7 dX5_sheet_34 ?_
          refine lv_iload_n X.1 X.2.1 dX5_sheet_35 rfl (lv_at hl 2 rfl) ?_
          refine lv_iload_n X.1 X.2.1 dX5_sheet_36 rfl (lv_at hl 3 rfl) ?_
          obtain ⟨r9, hr9, hf⟩ := bd_of hf
          refine x_callVv X hP hS (hG_r.2.1 _ hj8) (by omega) rfl (n := 2) (As := [.int p2, .int p3]) (ct_X3_begin (by omega) (Ro_of hG_r hj8) hr9) gX5_sheet_X3_begin rfl (by decide +kernel) ⟨by decide, by decide⟩ rfl hl.1 rfl (Nat.le_of_ble_eq_true rfl) dX5_sheet_37 (fun E H locs hp hP hS => ?_)
          obtain ⟨hW_r, hk⟩ := hp
          have hG_r := Rs_put hG_r hj8 hW_r hk
          try simp only [va_up_id] at hG_r
          have hG_x := Xo_kept hG_x (fun j h8 h9 => hk j (by omega))
          have hfr : ∀ j, (j < 55 ∨ 64 ≤ j) → E j = E0 j := fun j o0 => (hk j (by omega)).trans (hfr j o0)
          refine lv_iload_n X.1 X.2.1 dX5_sheet_40 rfl (lv_at hl 3 rfl) ?_
          obtain rfl := Option.some.inj hf
          exact hret _ _ _ _ _ _ dX5_sheet_41 rfl rfl (⟨hG_r, hfr⟩) hP hS
        · have hf := ifn hf c6
          refine lv_bipush (v := (-14)) X.1 X.2.1 dX5_sheet_26 (by decide) ?_
          obtain rfl := Option.some.inj hf
          exact hret _ _ _ _ _ _ dX5_sheet_28 rfl rfl (⟨hG_r, hfr⟩) hP hS
      · have hf := ifn hf c5
        refine lv_iconst (v := (-1)) X.1 X.2.1 dX5_sheet_20 (by decide) ?_
        obtain rfl := Option.some.inj hf
        exact hret _ _ _ _ _ _ dX5_sheet_21 rfl rfl (⟨hG_r, hfr⟩) hP hS
def fX5_state   (men_n : Int32) (md_n : Int32) (day_n : Int32) (drw_n : Int32) (bu_n : Nat → Int32) (st_n : Nat → Int32) (ki_n : Nat → Int32) (we_n : Nat → Int32) (wo_n : Nat → Int32) (wr_n : Nat → Int32) (kn_p : Int32) (bu_t : Nat → Int32) (st_t : Nat → Int32) (ki_t : Nat → Int32) (we_t : Nat → Int32) (wo_t : Nat → Int32) (wr_t : Nat → Int32) (ln_T : Int32) (ltr_T : Nat → Int32) : Option (Int32 × Int32 × Int32 × Int32 × Int32 × (Nat → Int32) × (Nat → Int32) × (Nat → Int32) × (Nat → Int32) × (Nat → Int32) × (Nat → Int32) × Int32 × Int32 × Int32 × Int32 × Int32 × (Nat → Int32) × (Nat → Int32) × (Nat → Int32) × (Nat → Int32) × (Nat → Int32) × (Nat → Int32) × Int32 × Int32) := (fX1_clear).bind (fun r1 => (fX4_readState ln_T ltr_T r1.1 r1.2.1 bu_t st_t ki_t we_t wo_t wr_t).bind (fun r2 => nm (r2.1) (fun x3 => nm (r2.2.1) (fun x4 => if x3 = 0 then (some ((-20) - x4, men_n, md_n, day_n, drw_n, bu_n, st_n, ki_n, we_n, wo_n, wr_n, kn_p, r2.2.2.1, r2.2.2.2.1, r1.2.2, drw_n, r2.2.2.2.2.1, r2.2.2.2.2.2.1, r2.2.2.2.2.2.2.1, r2.2.2.2.2.2.2.2.1, r2.2.2.2.2.2.2.2.2.1, r2.2.2.2.2.2.2.2.2.2, 0, r2.2.1)) else ((fX1_take bu_n st_n ki_n we_n wo_n wr_n r2.2.2.1 r2.2.2.2.1 r1.2.2 drw_n r2.2.2.2.2.1 r2.2.2.2.2.2.1 r2.2.2.2.2.2.2.1 r2.2.2.2.2.2.2.2.1 r2.2.2.2.2.2.2.2.2.1 r2.2.2.2.2.2.2.2.2.2).bind (fun r6 => (fX2_forget).bind (fun r7 => some (r6.1, r6.1, r6.2.1, r6.2.2.1, r6.2.2.2.1, r6.2.2.2.2.1, r6.2.2.2.2.2.1, r6.2.2.2.2.2.2.1, r6.2.2.2.2.2.2.2.1, r6.2.2.2.2.2.2.2.2.1, r6.2.2.2.2.2.2.2.2.2, r7, r2.2.2.1, r2.2.2.2.1, r1.2.2, drw_n, r2.2.2.2.2.1, r2.2.2.2.2.2.1, r2.2.2.2.2.2.2.1, r2.2.2.2.2.2.2.2.1, r2.2.2.2.2.2.2.2.2.1, r2.2.2.2.2.2.2.2.2.2, 0, r2.2.1))))))))
theorem in_X5_state_X1 : ∀ w ∈ wsX10, w ∈ wsX5_state := by decide +kernel
theorem in_X5_state_X4 : ∀ w ∈ wsX40, w ∈ wsX5_state := by decide +kernel
theorem in_X5_state_X5 : ∀ w ∈ wsX50, w ∈ wsX5_state := by decide +kernel
set_option maxHeartbeats 4000000 in
set_option maxRecDepth 100000 in
theorem ct_X5_state {l : Launch} {D : va_G} {g : Nat → ClassId} {qa : Nat → Nat} {E0 : Nat → va_E} {img_x : Int32} {men_n : Int32} {md_n : Int32} {day_n : Int32} {drw_n : Int32} {bu_n : Nat → Int32} {st_n : Nat → Int32} {ki_n : Nat → Int32} {we_n : Nat → Int32} {wo_n : Nat → Int32} {wr_n : Nat → Int32} {kn_p : Int32} {nx_p : Int32} {ke_p : Nat → Nat → Int32} {men_t : Int32} {md_t : Int32} {day_t : Int32} {drw_t : Int32} {bu_t : Nat → Int32} {st_t : Nat → Int32} {ki_t : Nat → Int32} {we_t : Nat → Int32} {wo_t : Nat → Int32} {wr_t : Nat → Int32} {ln_T : Int32} {plc_T : Int32} {ltr_T : Nat → Int32} (hG_x : Xo g qa E0 0 img_x) (hG_n : Mu g qa E0 1 men_n md_n day_n drw_n bu_n st_n ki_n we_n wo_n wr_n) (hG_p : Pa g qa E0 8 kn_p nx_p ke_p) (hG_t : Mu g qa E0 35 men_t md_t day_t drw_t bu_t st_t ki_t we_t wo_t wr_t) (hG_T : Ta g qa E0 42 ln_T plc_T ltr_T) {R : (Int32 × Int32 × Int32 × Int32 × Int32 × (Nat → Int32) × (Nat → Int32) × (Nat → Int32) × (Nat → Int32) × (Nat → Int32) × (Nat → Int32) × Int32 × Int32 × Int32 × Int32 × Int32 × (Nat → Int32) × (Nat → Int32) × (Nat → Int32) × (Nat → Int32) × (Nat → Int32) × (Nat → Int32) × Int32 × Int32)} (hf : fX5_state men_n md_n day_n drw_n bu_n st_n ki_n we_n wo_n wr_n kn_p bu_t st_t ki_t we_t wo_t wr_t ln_T ltr_T = some R) : MI l yX5_state wsX5_state 6 D g qa E0 [.ref (qa 0)] R.1 (fun E => Mu g qa E 1 R.2.1 R.2.2.1 R.2.2.2.1 R.2.2.2.2.1 R.2.2.2.2.2.1 R.2.2.2.2.2.2.1 R.2.2.2.2.2.2.2.1 R.2.2.2.2.2.2.2.2.1 R.2.2.2.2.2.2.2.2.2.1 R.2.2.2.2.2.2.2.2.2.2.1 ∧ Pa g qa E 8 R.2.2.2.2.2.2.2.2.2.2.2.1 nx_p ke_p ∧ Mu g qa E 35 R.2.2.2.2.2.2.2.2.2.2.2.2.1 R.2.2.2.2.2.2.2.2.2.2.2.2.2.1 R.2.2.2.2.2.2.2.2.2.2.2.2.2.2.1 R.2.2.2.2.2.2.2.2.2.2.2.2.2.2.2.1 R.2.2.2.2.2.2.2.2.2.2.2.2.2.2.2.2.1 R.2.2.2.2.2.2.2.2.2.2.2.2.2.2.2.2.2.1 R.2.2.2.2.2.2.2.2.2.2.2.2.2.2.2.2.2.2.1 R.2.2.2.2.2.2.2.2.2.2.2.2.2.2.2.2.2.2.2.1 R.2.2.2.2.2.2.2.2.2.2.2.2.2.2.2.2.2.2.2.2.1 R.2.2.2.2.2.2.2.2.2.2.2.2.2.2.2.2.2.2.2.2.2.1 ∧ Ta g qa E 42 R.2.2.2.2.2.2.2.2.2.2.2.2.2.2.2.2.2.2.2.2.2.2.1 R.2.2.2.2.2.2.2.2.2.2.2.2.2.2.2.2.2.2.2.2.2.2.2 ltr_T ∧ ∀ j, (j < 1 ∨ 8 ≤ j) → (j < 8 ∨ 18 ≤ j) → (j < 35 ∨ 42 ≤ j) → (j < 42 ∨ 44 ≤ j) → E j = E0 j) := by
  refine MI.mk (by decide) rfl (Nat.le_of_ble_eq_true rfl) ?_
  intro p e s m args below meth c ls Q X hret hP hS hl
  have hl : lv_has ls 3 [(0, .ref (qa 0))] := hl
  have hfr : ∀ j, (j < 1 ∨ 8 ≤ j) → (j < 8 ∨ 18 ≤ j) → (j < 35 ∨ 42 ≤ j) → (j < 42 ∨ 44 ≤ j) → E0 j = E0 j := fun _ _ _ _ _ => rfl
  rw [fX5_state] at hf
  refine lv_aload_n X.1 X.2.1 dX5_state_0 rfl (lv_at hl 0 rfl) ?_
  refine x_get X hP hG_x (by omega) rfl in_X5_state_X5 5 (by decide) (by decide +kernel) rfl rfl dX5_state_1 ?_
  obtain ⟨r1, hr1, hf⟩ := bd_of hf
  refine x_callVv X hP hS hG_t.1 (by omega) rfl (n := 0) (As := []) (ct_X1_clear (by omega) hG_t hr1) gX5_state_X1_clear rfl (by decide +kernel) ⟨by decide, by decide⟩ rfl hl.1 rfl (Nat.le_of_ble_eq_true rfl) dX5_state_4 (fun E H locs hp hP hS => ?_)
  obtain ⟨hW_n, hk⟩ := hp
  have hG_t := hW_n
  have hG_x := Xo_kept hG_x (fun j h8 h9 => hk j (by omega))
  have hG_n := Mu_kept hG_n (fun j h8 h9 => hk j (by omega))
  have hG_p := Pa_kept hG_p (fun j h8 h9 => hk j (by omega))
  have hG_T := Ta_kept hG_T (fun j h8 h9 => hk j (by omega))
  have hfr : ∀ j, (j < 1 ∨ 8 ≤ j) → (j < 8 ∨ 18 ≤ j) → (j < 35 ∨ 42 ≤ j) → (j < 42 ∨ 44 ≤ j) → E j = E0 j := fun j o0 o1 o2 o3 => (hk j (by omega)).trans (hfr j o0 o1 o2 o3)
  refine lv_aload_n X.1 X.2.1 dX5_state_7 rfl (lv_at hl 0 rfl) ?_
  refine x_get X hP hG_x (by omega) rfl in_X5_state_X5 5 (by decide) (by decide +kernel) rfl rfl dX5_state_8 ?_
  refine lv_aload_n X.1 X.2.1 dX5_state_11 rfl (lv_at hl 0 rfl) ?_
  refine x_get X hP hG_x (by omega) rfl in_X5_state_X5 0 (by decide) (by decide +kernel) rfl rfl dX5_state_12 ?_
  refine x_get X hP hG_n.1 (by omega) rfl in_X5_state_X1 9 (by decide) (by decide +kernel) rfl rfl dX5_state_15 ?_
  refine x_put (ty := .int) X hP hS hG_t.1 (by omega) rfl in_X5_state_X1 tyX1 tyX1_ok nmX1 9 (by decide) (by decide +kernel) rfl rfl (by decide +kernel) rfl rfl (Nat.le_of_ble_eq_true rfl) dX5_state_18 (fun E H locs h1 hk hP hS => ?_)
  have hG_t := Mu_set_0 hG_t h1 hk
  have hG_x := Xo_kept hG_x (fun j h8 h9 => hk j (by omega))
  have hG_n := Mu_kept hG_n (fun j h8 h9 => hk j (by omega))
  have hG_p := Pa_kept hG_p (fun j h8 h9 => hk j (by omega))
  have hG_T := Ta_kept hG_T (fun j h8 h9 => hk j (by omega))
  have hfr : ∀ j, (j < 1 ∨ 8 ≤ j) → (j < 8 ∨ 18 ≤ j) → (j < 35 ∨ 42 ≤ j) → (j < 42 ∨ 44 ≤ j) → E j = E0 j := fun j o0 o1 o2 o3 => (hk j (by omega)).trans (hfr j o0 o1 o2 o3)
  refine lv_aload_n X.1 X.2.1 dX5_state_21 rfl (lv_at hl 0 rfl) ?_
  refine x_get X hP hG_x (by omega) rfl in_X5_state_X5 6 (by decide) (by decide +kernel) rfl rfl dX5_state_22 ?_
  refine lv_aload_n X.1 X.2.1 dX5_state_25 rfl (lv_at hl 0 rfl) ?_
  refine x_get X hP hG_x (by omega) rfl in_X5_state_X5 5 (by decide) (by decide +kernel) rfl rfl dX5_state_26 ?_
  obtain ⟨r2, hr2, hf⟩ := bd_of hf
  refine x_callVi X hP hS hG_T.1 (by omega) rfl (n := 1) (As := [.ref (qa 35)]) (ct_X4_readState hG_T hG_t hr2) gX5_state_X4_readState rfl (by decide +kernel) ⟨by decide, by decide⟩ rfl hl.1 rfl (Nat.le_of_ble_eq_true rfl) dX5_state_29 (fun E H locs hp hP hS => ?_)
  obtain ⟨hW_T, hW_t, hk⟩ := hp
  have hG_T := hW_T
  have hG_t := hW_t
  have hG_x := Xo_kept hG_x (fun j h8 h9 => hk j (by omega) (by omega))
  have hG_n := Mu_kept hG_n (fun j h8 h9 => hk j (by omega) (by omega))
  have hG_p := Pa_kept hG_p (fun j h8 h9 => hk j (by omega) (by omega))
  have hfr : ∀ j, (j < 1 ∨ 8 ≤ j) → (j < 8 ∨ 18 ≤ j) → (j < 35 ∨ 42 ≤ j) → (j < 42 ∨ 44 ≤ j) → E j = E0 j := fun j o0 o1 o2 o3 => (hk j (by omega) (by omega)).trans (hfr j o0 o1 o2 o3)
  obtain ⟨x3, ex3, hf⟩ := nm_of hf
  refine lv_top_as ex3 ?_
  refine lv_istore_n (lv' := [(1, .int x3), (0, .ref (qa 0))]) X.1 X.2.1 dX5_state_32 rfl hl (by decide) rfl (fun ls hl => ?_)
  refine lv_aload_n X.1 X.2.1 dX5_state_33 rfl (lv_at hl 1 rfl) ?_
  refine x_get X hP hG_x (by omega) rfl in_X5_state_X5 6 (by decide) (by decide +kernel) rfl rfl dX5_state_34 ?_
  refine x_get X hP hG_T.1 (by omega) rfl in_X5_state_X4 2 (by decide) (by decide +kernel) rfl rfl dX5_state_37 ?_
  obtain ⟨x4, ex4, hf⟩ := nm_of hf
  refine lv_top_as ex4 ?_
  refine lv_istore_n (lv' := [(2, .int x4), (1, .int x3), (0, .ref (qa 0))]) X.1 X.2.1 dX5_state_40 rfl hl (by decide) rfl (fun ls hl => ?_)
  refine lv_aload_n X.1 X.2.1 dX5_state_41 rfl (lv_at hl 2 rfl) ?_
  refine x_get X hP hG_x (by omega) rfl in_X5_state_X5 6 (by decide) (by decide +kernel) rfl rfl dX5_state_42 ?_
  refine lv_iconst (v := 0) X.1 X.2.1 dX5_state_45 (by decide) ?_
  refine x_put (ty := .int) X hP hS hG_T.1 (by omega) rfl in_X5_state_X4 tyX4 tyX4_ok nmX4 1 (by decide) (by decide +kernel) rfl rfl (by decide +kernel) rfl rfl (Nat.le_of_ble_eq_true rfl) dX5_state_46 (fun E H locs h1 hk hP hS => ?_)
  have hG_T := Ta_set_0 hG_T h1 hk
  have hG_x := Xo_kept hG_x (fun j h8 h9 => hk j (by omega))
  have hG_n := Mu_kept hG_n (fun j h8 h9 => hk j (by omega))
  have hG_p := Pa_kept hG_p (fun j h8 h9 => hk j (by omega))
  have hG_t := Mu_kept hG_t (fun j h8 h9 => hk j (by omega))
  have hfr : ∀ j, (j < 1 ∨ 8 ≤ j) → (j < 8 ∨ 18 ≤ j) → (j < 35 ∨ 42 ≤ j) → (j < 42 ∨ 44 ≤ j) → E j = E0 j := fun j o0 o1 o2 o3 => (hk j (by omega)).trans (hfr j o0 o1 o2 o3)
  refine lv_iload_n X.1 X.2.1 dX5_state_49 rfl (lv_at hl 1 rfl) ?_
  refine lv_if_ne (tgt := 58) X.1 X.2.1 dX5_state_50 (by decide) (fun c5 => ?_) (fun c5 => ?_)
  · have hf := ifn hf c5
    refine lv_aload_n X.1 X.2.1 dX5_state_58 rfl (lv_at hl 2 rfl) ?_
    refine x_get X hP hG_x (by omega) rfl in_X5_state_X5 0 (by decide) (by decide +kernel) rfl rfl dX5_state_59 ?_
    refine lv_aload_n X.1 X.2.1 dX5_state_62 rfl (lv_at hl 2 rfl) ?_
    refine x_get X hP hG_x (by omega) rfl in_X5_state_X5 5 (by decide) (by decide +kernel) rfl rfl dX5_state_63 ?_
    obtain ⟨r6, hr6, hf⟩ := bd_of hf
    refine x_callVv X hP hS hG_n.1 (by omega) rfl (n := 1) (As := [.ref (qa 35)]) (ct_X1_take (by omega) hG_n (by omega) hG_t (by omega) hr6) gX5_state_X1_take rfl (by decide +kernel) ⟨by decide, by decide⟩ rfl hl.1 rfl (Nat.le_of_ble_eq_true rfl) dX5_state_66 (fun E H locs hp hP hS => ?_)
    obtain ⟨hW_n, hk⟩ := hp
    have hG_n := hW_n
    have hG_x := Xo_kept hG_x (fun j h8 h9 => hk j (by omega))
    have hG_p := Pa_kept hG_p (fun j h8 h9 => hk j (by omega))
    have hG_t := Mu_kept hG_t (fun j h8 h9 => hk j (by omega))
    have hG_T := Ta_kept hG_T (fun j h8 h9 => hk j (by omega))
    have hfr : ∀ j, (j < 1 ∨ 8 ≤ j) → (j < 8 ∨ 18 ≤ j) → (j < 35 ∨ 42 ≤ j) → (j < 42 ∨ 44 ≤ j) → E j = E0 j := fun j o0 o1 o2 o3 => (hk j (by omega)).trans (hfr j o0 o1 o2 o3)
    refine lv_aload_n X.1 X.2.1 dX5_state_69 rfl (lv_at hl 2 rfl) ?_
    refine x_get X hP hG_x (by omega) rfl in_X5_state_X5 1 (by decide) (by decide +kernel) rfl rfl dX5_state_70 ?_
    obtain ⟨r7, hr7, hf⟩ := bd_of hf
    refine x_callVv X hP hS hG_p.1 (by omega) rfl (n := 0) (As := []) (ct_X2_forget (by omega) hG_p hr7) gX5_state_X2_forget rfl (by decide +kernel) ⟨by decide, by decide⟩ rfl hl.1 rfl (Nat.le_of_ble_eq_true rfl) dX5_state_73 (fun E H locs hp hP hS => ?_)
    obtain ⟨hW_p, hk⟩ := hp
    have hG_p := hW_p
    have hG_x := Xo_kept hG_x (fun j h8 h9 => hk j (by omega))
    have hG_n := Mu_kept hG_n (fun j h8 h9 => hk j (by omega))
    have hG_t := Mu_kept hG_t (fun j h8 h9 => hk j (by omega))
    have hG_T := Ta_kept hG_T (fun j h8 h9 => hk j (by omega))
    have hfr : ∀ j, (j < 1 ∨ 8 ≤ j) → (j < 8 ∨ 18 ≤ j) → (j < 35 ∨ 42 ≤ j) → (j < 42 ∨ 44 ≤ j) → E j = E0 j := fun j o0 o1 o2 o3 => (hk j (by omega)).trans (hfr j o0 o1 o2 o3)
    refine lv_aload_n X.1 X.2.1 dX5_state_76 rfl (lv_at hl 2 rfl) ?_
    refine x_get X hP hG_x (by omega) rfl in_X5_state_X5 0 (by decide) (by decide +kernel) rfl rfl dX5_state_77 ?_
    refine x_get X hP hG_n.1 (by omega) rfl in_X5_state_X1 0 (by decide) (by decide +kernel) rfl rfl dX5_state_80 ?_
    obtain rfl := Option.some.inj hf
    exact hret _ _ _ _ _ _ dX5_state_83 rfl rfl (⟨hG_n, hG_p, hG_t, hG_T, hfr⟩) hP hS
  · have hf := ifp hf c5
    refine lv_bipush (v := (-20)) X.1 X.2.1 dX5_state_53 (by decide) ?_
    refine lv_iload_n X.1 X.2.1 dX5_state_55 rfl (lv_at hl 0 rfl) ?_
    refine lv_isub X.1 X.2.1 dX5_state_56 ?_
    obtain rfl := Option.some.inj hf
    exact hret _ _ _ _ _ _ dX5_state_57 rfl rfl (⟨hG_n, hG_p, hG_t, hG_T, hfr⟩) hP hS
def fX5_then (p1 : Int32)  (men_n : Int32) (md_n : Int32) (day_n : Int32) (bu_n : Nat → Int32) (st_n : Nat → Int32) (ki_n : Nat → Int32) (we_n : Nat → Int32) (wo_n : Nat → Int32) (wr_n : Nat → Int32) : Option Int32 := if p1 < 0 then (some (-1)) else (if p1 ≤ 60 then ((fX1_bentBehind p1 men_n md_n day_n bu_n st_n ki_n we_n wo_n wr_n).bind (fun r3 => some r3)) else (some (-1)))
theorem in_X5_then_X5 : ∀ w ∈ wsX50, w ∈ wsX5_then := by decide +kernel
set_option maxHeartbeats 4000000 in
set_option maxRecDepth 100000 in
theorem ct_X5_then {l : Launch} {D : va_G} {g : Nat → ClassId} {qa : Nat → Nat} {E0 : Nat → va_E} {p1 : Int32} {img_x : Int32} {men_n : Int32} {md_n : Int32} {day_n : Int32} {drw_n : Int32} {bu_n : Nat → Int32} {st_n : Nat → Int32} {ki_n : Nat → Int32} {we_n : Nat → Int32} {wo_n : Nat → Int32} {wr_n : Nat → Int32} (hG_x : Xo g qa E0 0 img_x) (hG_n : Mu g qa E0 1 men_n md_n day_n drw_n bu_n st_n ki_n we_n wo_n wr_n) {R : Int32} (hf : fX5_then p1 men_n md_n day_n bu_n st_n ki_n we_n wo_n wr_n = some R) : MI l yX5_then wsX5_then 6 D g qa E0 [.ref (qa 0), .int p1] R (fun E => E = E0) := by
  refine MI.mk (by decide) rfl (Nat.le_of_ble_eq_true rfl) ?_
  intro p e s m args below meth c ls Q X hret hP hS hl
  have hl : lv_has ls 2 [(0, .ref (qa 0)), (1, .int p1)] := hl
  rw [fX5_then] at hf
  refine lv_iload_n X.1 X.2.1 dX5_then_0 rfl (lv_at hl 1 rfl) ?_
  refine lv_if_lt (tgt := 10) X.1 X.2.1 dX5_then_1 (by decide) (fun c1 => ?_) (fun c1 => ?_)
  · have hf := ifp hf c1
    refine lv_iconst (v := (-1)) X.1 X.2.1 dX5_then_10 (by decide) ?_
    obtain rfl := Option.some.inj hf
    exact hret _ _ _ _ _ _ dX5_then_11 rfl rfl (rfl) hP hS
  · have hf := ifn hf c1
    refine lv_iload_n X.1 X.2.1 dX5_then_4 rfl (lv_at hl 1 rfl) ?_
    refine lv_bipush (v := 60) X.1 X.2.1 dX5_then_5 (by decide) ?_
    refine lv_icmp_le (tgt := 12) X.1 X.2.1 dX5_then_7 (by decide) (fun c2 => ?_) (fun c2 => ?_)
    · have hf := ifp hf c2
      refine lv_aload_n X.1 X.2.1 dX5_then_12 rfl (lv_at hl 0 rfl) ?_
      refine x_get X hP hG_x (by omega) rfl in_X5_then_X5 0 (by decide) (by decide +kernel) rfl rfl dX5_then_13 ?_
      refine lv_iload_n X.1 X.2.1 dX5_then_16 rfl (lv_at hl 1 rfl) ?_
      obtain ⟨r3, hr3, hf⟩ := bd_of hf
      refine x_rdVi X hP hS hG_n.1 (by omega) rfl (n := 1) (As := [.int p1]) (ct_X1_bentBehind (by omega) hG_n hr3) gX5_then_X1_bentBehind rfl (by decide +kernel) ⟨by decide, by decide⟩ rfl hl.1 rfl (Nat.le_of_ble_eq_true rfl) dX5_then_17 (fun H locs hP hS => ?_)
      obtain rfl := Option.some.inj hf
      exact hret _ _ _ _ _ _ dX5_then_20 rfl rfl (rfl) hP hS
    · have hf := ifn hf c2
      refine lv_iconst (v := (-1)) X.1 X.2.1 dX5_then_10 (by decide) ?_
      obtain rfl := Option.some.inj hf
      exact hret _ _ _ _ _ _ dX5_then_11 rfl rfl (rfl) hP hS
def bX5_two_38 (md_n : Int32) (day_n : Int32) (ki_n : Nat → Int32) (we_n : Nat → Int32) (wo_n : Nat → Int32) (wr_n : Nat → Int32) (v4_3 : Int32) (K3 : ((Int32 × Int32 × Int32)) → Option Int32) (K7 : ((Int32 × Int32 × Int32)) → Option Int32) : ((Int32 × Int32 × Int32)) → Option Int32
  | (v2_7, v3_7, v5_7) => if md_n ≤ v5_7 then (nm (v4_3 + 1) (fun x9 => K3 (v2_7, v3_7, x9))) else ((fX1_wornByTwo v4_3 v5_7 wr_n).bind (fun r10 => if r10 = 0 then (nm (v5_7 + 1) (fun x12 => K7 (v2_7, v3_7, x12))) else ((fX1_loadsIfChanged v4_3 v5_7 md_n day_n ki_n we_n wo_n wr_n).bind (fun r13 => if v2_7 = (-4) then (nm ((10 * v4_3) + v5_7) (fun x15 => nm (v5_7 + 1) (fun x16 => K7 (x15, r13, x16)))) else (if v3_7 ≤ r13 then (nm (v5_7 + 1) (fun x18 => K7 (v2_7, v3_7, x18))) else (nm ((10 * v4_3) + v5_7) (fun x19 => nm (v5_7 + 1) (fun x20 => K7 (x19, r13, x20)))))))))
def bX5_two_20 (md_n : Int32) (day_n : Int32) (ki_n : Nat → Int32) (we_n : Nat → Int32) (wo_n : Nat → Int32) (wr_n : Nat → Int32) (p1 : Int32) (K3 : ((Int32 × Int32 × Int32)) → Option Int32) : ((Int32 × Int32 × Int32)) → Option Int32
  | (v2_3, v3_3, v4_3) => if md_n ≤ v4_3 then (if p1 = 0 then (some v2_3) else (some v3_3)) else (nm (v4_3 + 1) (fun x6 => lp (bX5_two_38 md_n day_n ki_n we_n wo_n wr_n v4_3 K3) FU (v2_3, v3_3, x6)))
def fX5_two (p1 : Int32)  (md_n : Int32) (day_n : Int32) (ki_n : Nat → Int32) (we_n : Nat → Int32) (wo_n : Nat → Int32) (wr_n : Nat → Int32) : Option Int32 := if p1 < 0 then (some (-1)) else (if p1 ≤ 1 then (lp (bX5_two_20 md_n day_n ki_n we_n wo_n wr_n p1) FU ((-4), (-4), 0)) else (some (-1)))
theorem in_X5_two_X1 : ∀ w ∈ wsX10, w ∈ wsX5_two := by decide +kernel
theorem in_X5_two_X5 : ∀ w ∈ wsX50, w ∈ wsX5_two := by decide +kernel
set_option maxHeartbeats 4000000 in
set_option maxRecDepth 100000 in
theorem ct_X5_two {l : Launch} {D : va_G} {g : Nat → ClassId} {qa : Nat → Nat} {E0 : Nat → va_E} {p1 : Int32} {img_x : Int32} {men_n : Int32} {md_n : Int32} {day_n : Int32} {drw_n : Int32} {bu_n : Nat → Int32} {st_n : Nat → Int32} {ki_n : Nat → Int32} {we_n : Nat → Int32} {wo_n : Nat → Int32} {wr_n : Nat → Int32} (hG_x : Xo g qa E0 0 img_x) (hG_n : Mu g qa E0 1 men_n md_n day_n drw_n bu_n st_n ki_n we_n wo_n wr_n) {R : Int32} (hf : fX5_two p1 md_n day_n ki_n we_n wo_n wr_n = some R) : MI l yX5_two wsX5_two 3 D g qa E0 [.ref (qa 0), .int p1] R (fun E => E = E0) := by
  refine MI.mk (by decide) rfl (Nat.le_of_ble_eq_true rfl) ?_
  intro p e s m args below meth c ls Q X hret hP hS hl
  have hl : lv_has ls 7 [(0, .ref (qa 0)), (1, .int p1)] := hl
  rw [fX5_two] at hf
  refine lv_iload_n X.1 X.2.1 dX5_two_0 rfl (lv_at hl 1 rfl) ?_
  refine lv_if_lt (tgt := 9) X.1 X.2.1 dX5_two_1 (by decide) (fun c1 => ?_) (fun c1 => ?_)
  · have hf := ifp hf c1
    refine lv_iconst (v := (-1)) X.1 X.2.1 dX5_two_9 (by decide) ?_
    obtain rfl := Option.some.inj hf
    exact hret _ _ _ _ _ _ dX5_two_10 rfl rfl (rfl) hP hS
  · have hf := ifn hf c1
    refine lv_iload_n X.1 X.2.1 dX5_two_4 rfl (lv_at hl 1 rfl) ?_
    refine lv_iconst (v := 1) X.1 X.2.1 dX5_two_5 (by decide) ?_
    refine lv_icmp_le (tgt := 11) X.1 X.2.1 dX5_two_6 (by decide) (fun c2 => ?_) (fun c2 => ?_)
    · have hf := ifp hf c2
      refine lv_bipush (v := (-4)) X.1 X.2.1 dX5_two_11 (by decide) ?_
      refine lv_istore_n (lv' := [(2, .int (-4)), (0, .ref (qa 0)), (1, .int p1)]) X.1 X.2.1 dX5_two_13 rfl hl (by decide) rfl (fun ls hl => ?_)
      refine lv_bipush (v := (-4)) X.1 X.2.1 dX5_two_14 (by decide) ?_
      refine lv_istore_n (lv' := [(3, .int (-4)), (2, .int (-4)), (0, .ref (qa 0)), (1, .int p1)]) X.1 X.2.1 dX5_two_16 rfl hl (by decide) rfl (fun ls hl => ?_)
      refine lv_iconst (v := 0) X.1 X.2.1 dX5_two_17 (by decide) ?_
      refine lv_istore (lv' := [(4, .int 0), (3, .int (-4)), (2, .int (-4)), (0, .ref (qa 0)), (1, .int p1)]) X.1 X.2.1 dX5_two_18 hl (by decide) rfl (fun ls hl => ?_)
      have lp3 : ∀ (n3 : Nat) (v2_3 : Int32) (v3_3 : Int32) (v4_3 : Int32) (H : Heap) (locs : List Loc) (ls : Array Slot), lp (bX5_two_20 md_n day_n ki_n we_n wo_n wr_n p1) n3 (v2_3, v3_3, v4_3) = some R → va_P D vwCl (WD qa E0) H → va_S (gA qa s.heap.size) s.heap H locs → lv_has ls 7 [(0, .ref (qa 0)), (1, .int p1), (2, .int v2_3), (3, .int v3_3), (4, .int v4_3)] → W p l e (rmf 3) s m args below meth c H locs 0 0 Q (F0 m 20 ls []) := by
        intro n3
        induction n3 with
        | zero =>
          intro v2_3 v3_3 v4_3 H locs ls hf
          exact absurd hf (by intro h; cases h)
        | succ n3 ih3 =>
          intro v2_3 v3_3 v4_3 H locs ls hf hP hS hl
          have hf : bX5_two_20 md_n day_n ki_n we_n wo_n wr_n p1 (lp (bX5_two_20 md_n day_n ki_n we_n wo_n wr_n p1) n3) (v2_3, v3_3, v4_3) = some R := hf
          rw [bX5_two_20] at hf
          refine lv_iload X.1 X.2.1 dX5_two_20 (lv_at hl 4 rfl) ?_
          refine lv_aload_n X.1 X.2.1 dX5_two_22 rfl (lv_at hl 0 rfl) ?_
          refine x_get X hP hG_x (by omega) rfl in_X5_two_X5 0 (by decide) (by decide +kernel) rfl rfl dX5_two_23 ?_
          refine x_get X hP hG_n.1 (by omega) rfl in_X5_two_X1 3 (by decide) (by decide +kernel) rfl rfl dX5_two_26 ?_
          refine lv_icmp_ge (tgt := 113) X.1 X.2.1 dX5_two_29 (by decide) (fun c4 => ?_) (fun c4 => ?_)
          · have hf := ifp hf c4
            refine lv_iload_n X.1 X.2.1 dX5_two_113 rfl (lv_at hl 1 rfl) ?_
            refine lv_if_ne (tgt := 121) X.1 X.2.1 dX5_two_114 (by decide) (fun c5 => ?_) (fun c5 => ?_)
            · have hf := ifn hf c5
              refine lv_iload_n X.1 X.2.1 dX5_two_121 rfl (lv_at hl 3 rfl) ?_
              obtain rfl := Option.some.inj hf
              exact hret _ _ _ _ _ _ dX5_two_122 rfl rfl (rfl) hP hS
            · have hf := ifp hf c5
              refine lv_iload_n X.1 X.2.1 dX5_two_117 rfl (lv_at hl 2 rfl) ?_
              refine lv_goto (tgt := 122) X.1 X.2.1 dX5_two_118 (by decide) ?_
              obtain rfl := Option.some.inj hf
              exact hret _ _ _ _ _ _ dX5_two_122 rfl rfl (rfl) hP hS
          · have hf := ifn hf c4
            refine lv_iload X.1 X.2.1 dX5_two_32 (lv_at hl 4 rfl) ?_
            refine lv_iconst (v := 1) X.1 X.2.1 dX5_two_34 (by decide) ?_
            refine lv_iadd X.1 X.2.1 dX5_two_35 ?_
            obtain ⟨x6, ex6, hf⟩ := nm_of hf
            refine lv_top_as ex6 ?_
            refine lv_istore (lv' := [(5, .int x6), (0, .ref (qa 0)), (1, .int p1), (2, .int v2_3), (3, .int v3_3), (4, .int v4_3)]) X.1 X.2.1 dX5_two_36 hl (by decide) rfl (fun ls hl => ?_)
            have lp7 : ∀ (n7 : Nat) (v2_7 : Int32) (v3_7 : Int32) (v5_7 : Int32) (H : Heap) (locs : List Loc) (ls : Array Slot), lp (bX5_two_38 md_n day_n ki_n we_n wo_n wr_n v4_3 (lp (bX5_two_20 md_n day_n ki_n we_n wo_n wr_n p1) n3)) n7 (v2_7, v3_7, v5_7) = some R → va_P D vwCl (WD qa E0) H → va_S (gA qa s.heap.size) s.heap H locs → lv_has ls 7 [(0, .ref (qa 0)), (1, .int p1), (2, .int v2_7), (3, .int v3_7), (4, .int v4_3), (5, .int v5_7)] → W p l e (rmf 3) s m args below meth c H locs 0 0 Q (F0 m 38 ls []) := by
              intro n7
              induction n7 with
              | zero =>
                intro v2_7 v3_7 v5_7 H locs ls hf
                exact absurd hf (by intro h; cases h)
              | succ n7 ih7 =>
                intro v2_7 v3_7 v5_7 H locs ls hf hP hS hl
                have hf : bX5_two_38 md_n day_n ki_n we_n wo_n wr_n v4_3 (lp (bX5_two_20 md_n day_n ki_n we_n wo_n wr_n p1) n3) (lp (bX5_two_38 md_n day_n ki_n we_n wo_n wr_n v4_3 (lp (bX5_two_20 md_n day_n ki_n we_n wo_n wr_n p1) n3)) n7) (v2_7, v3_7, v5_7) = some R := hf
                rw [bX5_two_38] at hf
                refine lv_iload X.1 X.2.1 dX5_two_38 (lv_at hl 5 rfl) ?_
                refine lv_aload_n X.1 X.2.1 dX5_two_40 rfl (lv_at hl 0 rfl) ?_
                refine x_get X hP hG_x (by omega) rfl in_X5_two_X5 0 (by decide) (by decide +kernel) rfl rfl dX5_two_41 ?_
                refine x_get X hP hG_n.1 (by omega) rfl in_X5_two_X1 3 (by decide) (by decide +kernel) rfl rfl dX5_two_44 ?_
                refine lv_icmp_ge (tgt := 107) X.1 X.2.1 dX5_two_47 (by decide) (fun c8 => ?_) (fun c8 => ?_)
                · have hf := ifp hf c8
                  obtain ⟨x9, ex9, hf⟩ := nm_of hf
                  refine lv_iinc (v := x9) (lv' := [(4, .int x9), (0, .ref (qa 0)), (1, .int p1), (2, .int v2_7), (3, .int v3_7), (5, .int v5_7)]) X.1 X.2.1 dX5_two_107 hl (k := 4) rfl (by rw [ex9]; rfl) (by decide) rfl (fun ls hl => ?_)
                  refine lv_goto (tgt := 20) X.1 X.2.1 dX5_two_110 (by decide) ?_
                  exact ih3 v2_7 v3_7 x9 _ _ _ hf hP hS (lv_sub hl [1, 2, 3, 4, 0] rfl)
                · have hf := ifn hf c8
                  refine lv_aload_n X.1 X.2.1 dX5_two_50 rfl (lv_at hl 0 rfl) ?_
                  refine x_get X hP hG_x (by omega) rfl in_X5_two_X5 0 (by decide) (by decide +kernel) rfl rfl dX5_two_51 ?_
                  refine lv_iload X.1 X.2.1 dX5_two_54 (lv_at hl 4 rfl) ?_
                  refine lv_iload X.1 X.2.1 dX5_two_56 (lv_at hl 5 rfl) ?_
                  obtain ⟨r10, hr10, hf⟩ := bd_of hf
                  refine x_rdVi X hP hS hG_n.1 (by omega) rfl (n := 2) (As := [.int v4_3, .int v5_7]) (ct_X1_wornByTwo (by omega) hG_n hr10) gX5_two_X1_wornByTwo rfl (by decide +kernel) ⟨by decide, by decide⟩ rfl hl.1 rfl (Nat.le_of_ble_eq_true rfl) dX5_two_58 (fun H locs hP hS => ?_)
                  refine lv_if_eq (tgt := 101) X.1 X.2.1 dX5_two_61 (by decide) (fun c11 => ?_) (fun c11 => ?_)
                  · have hf := ifp hf c11
                    obtain ⟨x12, ex12, hf⟩ := nm_of hf
                    refine lv_iinc (v := x12) (lv' := [(5, .int x12), (0, .ref (qa 0)), (1, .int p1), (2, .int v2_7), (3, .int v3_7), (4, .int v4_3)]) X.1 X.2.1 dX5_two_101 hl (k := 5) rfl (by rw [ex12]; rfl) (by decide) rfl (fun ls hl => ?_)
                    refine lv_goto (tgt := 38) X.1 X.2.1 dX5_two_104 (by decide) ?_
                    exact ih7 v2_7 v3_7 x12 _ _ _ hf hP hS (lv_sub hl [1, 2, 3, 4, 5, 0] rfl)
                  · have hf := ifn hf c11
                    refine lv_aload_n X.1 X.2.1 dX5_two_64 rfl (lv_at hl 0 rfl) ?_
                    refine x_get X hP hG_x (by omega) rfl in_X5_two_X5 0 (by decide) (by decide +kernel) rfl rfl dX5_two_65 ?_
                    refine lv_iload X.1 X.2.1 dX5_two_68 (lv_at hl 4 rfl) ?_
                    refine lv_iload X.1 X.2.1 dX5_two_70 (lv_at hl 5 rfl) ?_
                    obtain ⟨r13, hr13, hf⟩ := bd_of hf
                    refine x_rdVi X hP hS hG_n.1 (by omega) rfl (n := 2) (As := [.int v4_3, .int v5_7]) (ct_X1_loadsIfChanged (by omega) hG_n hr13) gX5_two_X1_loadsIfChanged rfl (by decide +kernel) ⟨by decide, by decide⟩ rfl hl.1 rfl (Nat.le_of_ble_eq_true rfl) dX5_two_72 (fun H locs hP hS => ?_)
                    refine lv_istore (lv' := [(6, .int r13), (0, .ref (qa 0)), (1, .int p1), (2, .int v2_7), (3, .int v3_7), (4, .int v4_3), (5, .int v5_7)]) X.1 X.2.1 dX5_two_75 hl (by decide) rfl (fun ls hl => ?_)
                    refine lv_iload_n X.1 X.2.1 dX5_two_77 rfl (lv_at hl 3 rfl) ?_
                    refine lv_bipush (v := (-4)) X.1 X.2.1 dX5_two_78 (by decide) ?_
                    refine lv_icmp_eq (tgt := 89) X.1 X.2.1 dX5_two_80 (by decide) (fun c14 => ?_) (fun c14 => ?_)
                    · have hf := ifp hf c14
                      refine lv_bipush (v := 10) X.1 X.2.1 dX5_two_89 (by decide) ?_
                      refine lv_iload X.1 X.2.1 dX5_two_91 (lv_at hl 5 rfl) ?_
                      refine lv_imul X.1 X.2.1 dX5_two_93 ?_
                      refine lv_iload X.1 X.2.1 dX5_two_94 (lv_at hl 6 rfl) ?_
                      refine lv_iadd X.1 X.2.1 dX5_two_96 ?_
                      obtain ⟨x15, ex15, hf⟩ := nm_of hf
                      refine lv_top_as ex15 ?_
                      refine lv_istore_n (lv' := [(2, .int x15), (6, .int r13), (0, .ref (qa 0)), (1, .int p1), (3, .int v3_7), (4, .int v4_3), (5, .int v5_7)]) X.1 X.2.1 dX5_two_97 rfl hl (by decide) rfl (fun ls hl => ?_)
                      refine lv_iload X.1 X.2.1 dX5_two_98 (lv_at hl 1 rfl) ?_
                      refine lv_istore_n (lv' := [(3, .int r13), (2, .int x15), (6, .int r13), (0, .ref (qa 0)), (1, .int p1), (4, .int v4_3), (5, .int v5_7)]) X.1 X.2.1 dX5_two_100 rfl hl (by decide) rfl (fun ls hl => ?_)
                      obtain ⟨x16, ex16, hf⟩ := nm_of hf
                      refine lv_iinc (v := x16) (lv' := [(5, .int x16), (3, .int r13), (2, .int x15), (6, .int r13), (0, .ref (qa 0)), (1, .int p1), (4, .int v4_3)]) X.1 X.2.1 dX5_two_101 hl (k := 6) rfl (by rw [ex16]; rfl) (by decide) rfl (fun ls hl => ?_)
                      refine lv_goto (tgt := 38) X.1 X.2.1 dX5_two_104 (by decide) ?_
                      exact ih7 x15 r13 x16 _ _ _ hf hP hS (lv_sub hl [4, 5, 2, 1, 6, 0] rfl)
                    · have hf := ifn hf c14
                      refine lv_iload X.1 X.2.1 dX5_two_83 (lv_at hl 0 rfl) ?_
                      refine lv_iload_n X.1 X.2.1 dX5_two_85 rfl (lv_at hl 4 rfl) ?_
                      refine lv_icmp_ge (tgt := 101) X.1 X.2.1 dX5_two_86 (by decide) (fun c17 => ?_) (fun c17 => ?_)
                      · have hf := ifp hf c17
                        obtain ⟨x18, ex18, hf⟩ := nm_of hf
                        refine lv_iinc (v := x18) (lv' := [(5, .int x18), (6, .int r13), (0, .ref (qa 0)), (1, .int p1), (2, .int v2_7), (3, .int v3_7), (4, .int v4_3)]) X.1 X.2.1 dX5_two_101 hl (k := 6) rfl (by rw [ex18]; rfl) (by decide) rfl (fun ls hl => ?_)
                        refine lv_goto (tgt := 38) X.1 X.2.1 dX5_two_104 (by decide) ?_
                        exact ih7 v2_7 v3_7 x18 _ _ _ hf hP hS (lv_sub hl [2, 3, 4, 5, 6, 0] rfl)
                      · have hf := ifn hf c17
                        refine lv_bipush (v := 10) X.1 X.2.1 dX5_two_89 (by decide) ?_
                        refine lv_iload X.1 X.2.1 dX5_two_91 (lv_at hl 5 rfl) ?_
                        refine lv_imul X.1 X.2.1 dX5_two_93 ?_
                        refine lv_iload X.1 X.2.1 dX5_two_94 (lv_at hl 6 rfl) ?_
                        refine lv_iadd X.1 X.2.1 dX5_two_96 ?_
                        obtain ⟨x19, ex19, hf⟩ := nm_of hf
                        refine lv_top_as ex19 ?_
                        refine lv_istore_n (lv' := [(2, .int x19), (6, .int r13), (0, .ref (qa 0)), (1, .int p1), (3, .int v3_7), (4, .int v4_3), (5, .int v5_7)]) X.1 X.2.1 dX5_two_97 rfl hl (by decide) rfl (fun ls hl => ?_)
                        refine lv_iload X.1 X.2.1 dX5_two_98 (lv_at hl 1 rfl) ?_
                        refine lv_istore_n (lv' := [(3, .int r13), (2, .int x19), (6, .int r13), (0, .ref (qa 0)), (1, .int p1), (4, .int v4_3), (5, .int v5_7)]) X.1 X.2.1 dX5_two_100 rfl hl (by decide) rfl (fun ls hl => ?_)
                        obtain ⟨x20, ex20, hf⟩ := nm_of hf
                        refine lv_iinc (v := x20) (lv' := [(5, .int x20), (3, .int r13), (2, .int x19), (6, .int r13), (0, .ref (qa 0)), (1, .int p1), (4, .int v4_3)]) X.1 X.2.1 dX5_two_101 hl (k := 6) rfl (by rw [ex20]; rfl) (by decide) rfl (fun ls hl => ?_)
                        refine lv_goto (tgt := 38) X.1 X.2.1 dX5_two_104 (by decide) ?_
                        exact ih7 x19 r13 x20 _ _ _ hf hP hS (lv_sub hl [4, 5, 2, 1, 6, 0] rfl)
            exact lp7 FU v2_3 v3_3 x6 _ _ _ hf hP hS (lv_sub hl [1, 2, 3, 4, 5, 0] rfl)
      exact lp3 FU (-4) (-4) 0 _ _ _ hf hP hS (lv_sub hl [3, 4, 2, 1, 0] rfl)
    · have hf := ifn hf c2
      refine lv_iconst (v := (-1)) X.1 X.2.1 dX5_two_9 (by decide) ?_
      obtain rfl := Option.some.inj hf
      exact hret _ _ _ _ _ _ dX5_two_10 rfl rfl (rfl) hP hS
def fX5_type (p1 : Int32)  (ln_T : Int32) (ltr_T : Nat → Int32) : Option (Int32 × Int32 × (Nat → Int32)) := if p1 < 32 then (some ((-1), ln_T, ltr_T)) else (if p1 ≤ 126 then ((fX4_add ((Int32.toUInt32 p1 % 65536).toInt32) ln_T ltr_T).bind (fun r3 => if r3.1 = 0 then (some ((-3), r3.2.1, r3.2.2)) else (some (r3.2.1, r3.2.1, r3.2.2)))) else (some ((-1), ln_T, ltr_T)))
theorem in_X5_type_X4 : ∀ w ∈ wsX40, w ∈ wsX5_type := by decide +kernel
theorem in_X5_type_X5 : ∀ w ∈ wsX50, w ∈ wsX5_type := by decide +kernel
set_option maxHeartbeats 4000000 in
set_option maxRecDepth 100000 in
theorem ct_X5_type {l : Launch} {D : va_G} {g : Nat → ClassId} {qa : Nat → Nat} {E0 : Nat → va_E} {p1 : Int32} {img_x : Int32} {ln_T : Int32} {plc_T : Int32} {ltr_T : Nat → Int32} (hG_x : Xo g qa E0 0 img_x) (hG_T : Ta g qa E0 42 ln_T plc_T ltr_T) {R : (Int32 × Int32 × (Nat → Int32))} (hf : fX5_type p1 ln_T ltr_T = some R) : MI l yX5_type wsX5_type 1 D g qa E0 [.ref (qa 0), .int p1] R.1 (fun E => Ta g qa E 42 R.2.1 plc_T R.2.2 ∧ ∀ j, (j < 42 ∨ 44 ≤ j) → E j = E0 j) := by
  refine MI.mk (by decide) rfl (Nat.le_of_ble_eq_true rfl) ?_
  intro p e s m args below meth c ls Q X hret hP hS hl
  have hl : lv_has ls 2 [(0, .ref (qa 0)), (1, .int p1)] := hl
  have hfr : ∀ j, (j < 42 ∨ 44 ≤ j) → E0 j = E0 j := fun _ _ => rfl
  rw [fX5_type] at hf
  refine lv_iload_n X.1 X.2.1 dX5_type_0 rfl (lv_at hl 1 rfl) ?_
  refine lv_bipush (v := 32) X.1 X.2.1 dX5_type_1 (by decide) ?_
  refine lv_icmp_lt (tgt := 12) X.1 X.2.1 dX5_type_3 (by decide) (fun c1 => ?_) (fun c1 => ?_)
  · have hf := ifp hf c1
    refine lv_iconst (v := (-1)) X.1 X.2.1 dX5_type_12 (by decide) ?_
    obtain rfl := Option.some.inj hf
    exact hret _ _ _ _ _ _ dX5_type_13 rfl rfl (⟨hG_T, hfr⟩) hP hS
  · have hf := ifn hf c1
    refine lv_iload_n X.1 X.2.1 dX5_type_6 rfl (lv_at hl 1 rfl) ?_
    refine lv_bipush (v := 126) X.1 X.2.1 dX5_type_7 (by decide) ?_
    refine lv_icmp_le (tgt := 14) X.1 X.2.1 dX5_type_9 (by decide) (fun c2 => ?_) (fun c2 => ?_)
    · have hf := ifp hf c2
      refine lv_aload_n X.1 X.2.1 dX5_type_14 rfl (lv_at hl 0 rfl) ?_
      refine x_get X hP hG_x (by omega) rfl in_X5_type_X5 6 (by decide) (by decide +kernel) rfl rfl dX5_type_15 ?_
      refine lv_iload_n X.1 X.2.1 dX5_type_18 rfl (lv_at hl 1 rfl) ?_
      refine lv_i2c X.1 X.2.1 dX5_type_19 rfl ?_
      obtain ⟨r3, hr3, hf⟩ := bd_of hf
      refine x_callVi X hP hS hG_T.1 (by omega) rfl (n := 1) (As := [.int ((Int32.toUInt32 p1 % 65536).toInt32)]) (ct_X4_add hG_T hr3) gX5_type_X4_add rfl (by decide +kernel) ⟨by decide, by decide⟩ rfl hl.1 rfl (Nat.le_of_ble_eq_true rfl) dX5_type_20 (fun E H locs hp hP hS => ?_)
      obtain ⟨hW_T, hk⟩ := hp
      have hG_T := hW_T
      have hG_x := Xo_kept hG_x (fun j h8 h9 => hk j (by omega))
      have hfr : ∀ j, (j < 42 ∨ 44 ≤ j) → E j = E0 j := fun j o0 => (hk j (by omega)).trans (hfr j o0)
      refine lv_if_eq (tgt := 36) X.1 X.2.1 dX5_type_23 (by decide) (fun c4 => ?_) (fun c4 => ?_)
      · have hf := ifp hf c4
        refine lv_bipush (v := (-3)) X.1 X.2.1 dX5_type_36 (by decide) ?_
        obtain rfl := Option.some.inj hf
        exact hret _ _ _ _ _ _ dX5_type_38 rfl rfl (⟨hG_T, hfr⟩) hP hS
      · have hf := ifn hf c4
        refine lv_aload_n X.1 X.2.1 dX5_type_26 rfl (lv_at hl 0 rfl) ?_
        refine x_get X hP hG_x (by omega) rfl in_X5_type_X5 6 (by decide) (by decide +kernel) rfl rfl dX5_type_27 ?_
        refine x_get X hP hG_T.1 (by omega) rfl in_X5_type_X4 1 (by decide) (by decide +kernel) rfl rfl dX5_type_30 ?_
        refine lv_goto (tgt := 38) X.1 X.2.1 dX5_type_33 (by decide) ?_
        obtain rfl := Option.some.inj hf
        exact hret _ _ _ _ _ _ dX5_type_38 rfl rfl (⟨hG_T, hfr⟩) hP hS
    · have hf := ifn hf c2
      refine lv_iconst (v := (-1)) X.1 X.2.1 dX5_type_12 (by decide) ?_
      obtain rfl := Option.some.inj hf
      exact hret _ _ _ _ _ _ dX5_type_13 rfl rfl (⟨hG_T, hfr⟩) hP hS
def fX5_undo   (day_n : Int32) (drw_n : Int32) (st_n : Nat → Int32) (we_n : Nat → Int32) (wr_n : Nat → Int32) (kn_p : Int32) (nx_p : Int32) (ke_p : Nat → Nat → Int32) : Option (Int32 × Int32 × Int32 × (Nat → Int32) × (Nat → Int32) × (Nat → Int32) × Int32 × Int32) := (fX2_giveBack kn_p nx_p ke_p day_n drw_n st_n we_n wr_n).bind (fun r1 => if r1.1 = 0 then (some ((-4), r1.2.2.2.1, r1.2.2.2.2.1, r1.2.2.2.2.2.1, r1.2.2.2.2.2.2.1, r1.2.2.2.2.2.2.2, r1.2.1, r1.2.2.1)) else (some (r1.2.1, r1.2.2.2.1, r1.2.2.2.2.1, r1.2.2.2.2.2.1, r1.2.2.2.2.2.2.1, r1.2.2.2.2.2.2.2, r1.2.1, r1.2.2.1)))
theorem in_X5_undo_X2 : ∀ w ∈ wsX20, w ∈ wsX5_undo := by decide +kernel
theorem in_X5_undo_X5 : ∀ w ∈ wsX50, w ∈ wsX5_undo := by decide +kernel
set_option maxHeartbeats 4000000 in
set_option maxRecDepth 100000 in
theorem ct_X5_undo {l : Launch} {D : va_G} {g : Nat → ClassId} {qa : Nat → Nat} {E0 : Nat → va_E} {img_x : Int32} {men_n : Int32} {md_n : Int32} {day_n : Int32} {drw_n : Int32} {bu_n : Nat → Int32} {st_n : Nat → Int32} {ki_n : Nat → Int32} {we_n : Nat → Int32} {wo_n : Nat → Int32} {wr_n : Nat → Int32} {kn_p : Int32} {nx_p : Int32} {ke_p : Nat → Nat → Int32} (hG_x : Xo g qa E0 0 img_x) (hG_n : Mu g qa E0 1 men_n md_n day_n drw_n bu_n st_n ki_n we_n wo_n wr_n) (hG_p : Pa g qa E0 8 kn_p nx_p ke_p) {R : (Int32 × Int32 × Int32 × (Nat → Int32) × (Nat → Int32) × (Nat → Int32) × Int32 × Int32)} (hf : fX5_undo day_n drw_n st_n we_n wr_n kn_p nx_p ke_p = some R) : MI l yX5_undo wsX5_undo 2 D g qa E0 [.ref (qa 0)] R.1 (fun E => Mu g qa E 1 men_n md_n R.2.1 R.2.2.1 bu_n R.2.2.2.1 ki_n R.2.2.2.2.1 wo_n R.2.2.2.2.2.1 ∧ Pa g qa E 8 R.2.2.2.2.2.2.1 R.2.2.2.2.2.2.2 ke_p ∧ ∀ j, (j < 1 ∨ 8 ≤ j) → (j < 8 ∨ 18 ≤ j) → E j = E0 j) := by
  refine MI.mk (by decide) rfl (Nat.le_of_ble_eq_true rfl) ?_
  intro p e s m args below meth c ls Q X hret hP hS hl
  have hl : lv_has ls 1 [(0, .ref (qa 0))] := hl
  have hfr : ∀ j, (j < 1 ∨ 8 ≤ j) → (j < 8 ∨ 18 ≤ j) → E0 j = E0 j := fun _ _ _ => rfl
  rw [fX5_undo] at hf
  refine lv_aload_n X.1 X.2.1 dX5_undo_0 rfl (lv_at hl 0 rfl) ?_
  refine x_get X hP hG_x (by omega) rfl in_X5_undo_X5 1 (by decide) (by decide +kernel) rfl rfl dX5_undo_1 ?_
  refine lv_aload_n X.1 X.2.1 dX5_undo_4 rfl (lv_at hl 0 rfl) ?_
  refine x_get X hP hG_x (by omega) rfl in_X5_undo_X5 0 (by decide) (by decide +kernel) rfl rfl dX5_undo_5 ?_
  obtain ⟨r1, hr1, hf⟩ := bd_of hf
  refine x_callVi X hP hS hG_p.1 (by omega) rfl (n := 1) (As := [.ref (qa 1)]) (ct_X2_giveBack hG_p hG_n hr1) gX5_undo_X2_giveBack rfl (by decide +kernel) ⟨by decide, by decide⟩ rfl hl.1 rfl (Nat.le_of_ble_eq_true rfl) dX5_undo_8 (fun E H locs hp hP hS => ?_)
  obtain ⟨hW_p, hW_n, hk⟩ := hp
  have hG_p := hW_p
  have hG_n := hW_n
  have hG_x := Xo_kept hG_x (fun j h8 h9 => hk j (by omega) (by omega))
  have hfr : ∀ j, (j < 1 ∨ 8 ≤ j) → (j < 8 ∨ 18 ≤ j) → E j = E0 j := fun j o0 o1 => (hk j (by omega) (by omega)).trans (hfr j o0 o1)
  refine lv_if_eq (tgt := 24) X.1 X.2.1 dX5_undo_11 (by decide) (fun c2 => ?_) (fun c2 => ?_)
  · have hf := ifp hf c2
    refine lv_bipush (v := (-4)) X.1 X.2.1 dX5_undo_24 (by decide) ?_
    obtain rfl := Option.some.inj hf
    exact hret _ _ _ _ _ _ dX5_undo_26 rfl rfl (⟨hG_n, hG_p, hfr⟩) hP hS
  · have hf := ifn hf c2
    refine lv_aload_n X.1 X.2.1 dX5_undo_14 rfl (lv_at hl 0 rfl) ?_
    refine x_get X hP hG_x (by omega) rfl in_X5_undo_X5 1 (by decide) (by decide +kernel) rfl rfl dX5_undo_15 ?_
    refine x_get X hP hG_p.1 (by omega) rfl in_X5_undo_X2 1 (by decide) (by decide +kernel) rfl rfl dX5_undo_18 ?_
    refine lv_goto (tgt := 26) X.1 X.2.1 dX5_undo_21 (by decide) ?_
    obtain rfl := Option.some.inj hf
    exact hret _ _ _ _ _ _ dX5_undo_26 rfl rfl (⟨hG_n, hG_p, hfr⟩) hP hS
