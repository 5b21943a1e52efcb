theorem dX2_forget_0 : decode cX2_forget 0 = .ok (.aload_n 0, 1) := by decide +kernel
theorem dX2_forget_1 : decode cX2_forget 1 = .ok (.iconst 0, 1) := by decide +kernel
theorem dX2_forget_2 : decode cX2_forget 2 = .ok (.putfield 16, 3) := by decide +kernel
theorem dX2_forget_5 : decode cX2_forget 5 = .ok (.return_, 1) := by decide +kernel
theorem dX2_keep_0 : decode cX2_keep 0 = .ok (.aload_n 0, 1) := by decide +kernel
theorem dX2_keep_1 : decode cX2_keep 1 = .ok (.getfield 13, 3) := by decide +kernel
theorem dX2_keep_4 : decode cX2_keep 4 = .ok (.aload_n 0, 1) := by decide +kernel
theorem dX2_keep_5 : decode cX2_keep 5 = .ok (.getfield 20, 3) := by decide +kernel
theorem dX2_keep_8 : decode cX2_keep 8 = .ok (.aaload, 1) := by decide +kernel
theorem dX2_keep_9 : decode cX2_keep 9 = .ok (.astore_n 2, 1) := by decide +kernel
theorem dX2_keep_10 : decode cX2_keep 10 = .ok (.aload_n 1, 1) := by decide +kernel
theorem dX2_keep_11 : decode cX2_keep 11 = .ok (.getfield 23, 3) := by decide +kernel
theorem dX2_keep_14 : decode cX2_keep 14 = .ok (.iconst 0, 1) := by decide +kernel
theorem dX2_keep_15 : decode cX2_keep 15 = .ok (.aload_n 2, 1) := by decide +kernel
theorem dX2_keep_16 : decode cX2_keep 16 = .ok (.iconst 0, 1) := by decide +kernel
theorem dX2_keep_17 : decode cX2_keep 17 = .ok (.iconst 5, 1) := by decide +kernel
theorem dX2_keep_18 : decode cX2_keep 18 = .ok (.invokestatic 29, 3) := by decide +kernel
theorem dX2_keep_21 : decode cX2_keep 21 = .ok (.aload_n 1, 1) := by decide +kernel
theorem dX2_keep_22 : decode cX2_keep 22 = .ok (.getfield 35, 3) := by decide +kernel
theorem dX2_keep_25 : decode cX2_keep 25 = .ok (.iconst 0, 1) := by decide +kernel
theorem dX2_keep_26 : decode cX2_keep 26 = .ok (.aload_n 2, 1) := by decide +kernel
theorem dX2_keep_27 : decode cX2_keep 27 = .ok (.iconst 5, 1) := by decide +kernel
theorem dX2_keep_28 : decode cX2_keep 28 = .ok (.bipush 6, 2) := by decide +kernel
theorem dX2_keep_30 : decode cX2_keep 30 = .ok (.invokestatic 29, 3) := by decide +kernel
theorem dX2_keep_33 : decode cX2_keep 33 = .ok (.aload_n 1, 1) := by decide +kernel
theorem dX2_keep_34 : decode cX2_keep 34 = .ok (.getfield 38, 3) := by decide +kernel
theorem dX2_keep_37 : decode cX2_keep 37 = .ok (.iconst 0, 1) := by decide +kernel
theorem dX2_keep_38 : decode cX2_keep 38 = .ok (.aload_n 2, 1) := by decide +kernel
theorem dX2_keep_39 : decode cX2_keep 39 = .ok (.bipush 11, 2) := by decide +kernel
theorem dX2_keep_41 : decode cX2_keep 41 = .ok (.bipush 6, 2) := by decide +kernel
theorem dX2_keep_43 : decode cX2_keep 43 = .ok (.invokestatic 29, 3) := by decide +kernel
theorem dX2_keep_46 : decode cX2_keep 46 = .ok (.aload_n 2, 1) := by decide +kernel
theorem dX2_keep_47 : decode cX2_keep 47 = .ok (.bipush 17, 2) := by decide +kernel
theorem dX2_keep_49 : decode cX2_keep 49 = .ok (.aload_n 1, 1) := by decide +kernel
theorem dX2_keep_50 : decode cX2_keep 50 = .ok (.getfield 41, 3) := by decide +kernel
theorem dX2_keep_53 : decode cX2_keep 53 = .ok (.iastore, 1) := by decide +kernel
theorem dX2_keep_54 : decode cX2_keep 54 = .ok (.aload_n 2, 1) := by decide +kernel
theorem dX2_keep_55 : decode cX2_keep 55 = .ok (.bipush 18, 2) := by decide +kernel
theorem dX2_keep_57 : decode cX2_keep 57 = .ok (.aload_n 1, 1) := by decide +kernel
theorem dX2_keep_58 : decode cX2_keep 58 = .ok (.getfield 44, 3) := by decide +kernel
theorem dX2_keep_61 : decode cX2_keep 61 = .ok (.iastore, 1) := by decide +kernel
theorem dX2_keep_62 : decode cX2_keep 62 = .ok (.aload_n 0, 1) := by decide +kernel
theorem dX2_keep_63 : decode cX2_keep 63 = .ok (.aload_n 0, 1) := by decide +kernel
theorem dX2_keep_64 : decode cX2_keep 64 = .ok (.getfield 20, 3) := by decide +kernel
theorem dX2_keep_67 : decode cX2_keep 67 = .ok (.iconst 1, 1) := by decide +kernel
theorem dX2_keep_68 : decode cX2_keep 68 = .ok (.iadd, 1) := by decide +kernel
theorem dX2_keep_69 : decode cX2_keep 69 = .ok (.bipush 8, 2) := by decide +kernel
theorem dX2_keep_71 : decode cX2_keep 71 = .ok (.irem, 1) := by decide +kernel
theorem dX2_keep_72 : decode cX2_keep 72 = .ok (.putfield 20, 3) := by decide +kernel
theorem dX2_keep_75 : decode cX2_keep 75 = .ok (.aload_n 0, 1) := by decide +kernel
theorem dX2_keep_76 : decode cX2_keep 76 = .ok (.bipush 8, 2) := by decide +kernel
theorem dX2_keep_78 : decode cX2_keep 78 = .ok (.aload_n 0, 1) := by decide +kernel
theorem dX2_keep_79 : decode cX2_keep 79 = .ok (.getfield 16, 3) := by decide +kernel
theorem dX2_keep_82 : decode cX2_keep 82 = .ok (.iconst 1, 1) := by decide +kernel
theorem dX2_keep_83 : decode cX2_keep 83 = .ok (.iadd, 1) := by decide +kernel
theorem dX2_keep_84 : decode cX2_keep 84 = .ok (.invokestatic 47, 3) := by decide +kernel
theorem dX2_keep_87 : decode cX2_keep 87 = .ok (.putfield 16, 3) := by decide +kernel
theorem dX2_keep_90 : decode cX2_keep 90 = .ok (.return_, 1) := by decide +kernel
theorem dX2_giveBack_0 : decode cX2_giveBack 0 = .ok (.aload_n 0, 1) := by decide +kernel
theorem dX2_giveBack_1 : decode cX2_giveBack 1 = .ok (.getfield 16, 3) := by decide +kernel
theorem dX2_giveBack_4 : decode cX2_giveBack 4 = .ok (.ifCond .ne 5, 3) := by decide +kernel
theorem dX2_giveBack_7 : decode cX2_giveBack 7 = .ok (.iconst 0, 1) := by decide +kernel
theorem dX2_giveBack_8 : decode cX2_giveBack 8 = .ok (.ireturn, 1) := by decide +kernel
theorem dX2_giveBack_9 : decode cX2_giveBack 9 = .ok (.aload_n 0, 1) := by decide +kernel
theorem dX2_giveBack_10 : decode cX2_giveBack 10 = .ok (.dup, 1) := by decide +kernel
theorem dX2_giveBack_11 : decode cX2_giveBack 11 = .ok (.getfield 16, 3) := by decide +kernel
theorem dX2_giveBack_14 : decode cX2_giveBack 14 = .ok (.iconst 1, 1) := by decide +kernel
theorem dX2_giveBack_15 : decode cX2_giveBack 15 = .ok (.isub, 1) := by decide +kernel
theorem dX2_giveBack_16 : decode cX2_giveBack 16 = .ok (.putfield 16, 3) := by decide +kernel
theorem dX2_giveBack_19 : decode cX2_giveBack 19 = .ok (.aload_n 0, 1) := by decide +kernel
theorem dX2_giveBack_20 : decode cX2_giveBack 20 = .ok (.aload_n 0, 1) := by decide +kernel
theorem dX2_giveBack_21 : decode cX2_giveBack 21 = .ok (.getfield 20, 3) := by decide +kernel
theorem dX2_giveBack_24 : decode cX2_giveBack 24 = .ok (.bipush 8, 2) := by decide +kernel
theorem dX2_giveBack_26 : decode cX2_giveBack 26 = .ok (.iadd, 1) := by decide +kernel
theorem dX2_giveBack_27 : decode cX2_giveBack 27 = .ok (.iconst 1, 1) := by decide +kernel
theorem dX2_giveBack_28 : decode cX2_giveBack 28 = .ok (.isub, 1) := by decide +kernel
theorem dX2_giveBack_29 : decode cX2_giveBack 29 = .ok (.bipush 8, 2) := by decide +kernel
theorem dX2_giveBack_31 : decode cX2_giveBack 31 = .ok (.irem, 1) := by decide +kernel
theorem dX2_giveBack_32 : decode cX2_giveBack 32 = .ok (.putfield 20, 3) := by decide +kernel
theorem dX2_giveBack_35 : decode cX2_giveBack 35 = .ok (.aload_n 0, 1) := by decide +kernel
theorem dX2_giveBack_36 : decode cX2_giveBack 36 = .ok (.getfield 13, 3) := by decide +kernel
theorem dX2_giveBack_39 : decode cX2_giveBack 39 = .ok (.aload_n 0, 1) := by decide +kernel
theorem dX2_giveBack_40 : decode cX2_giveBack 40 = .ok (.getfield 20, 3) := by decide +kernel
theorem dX2_giveBack_43 : decode cX2_giveBack 43 = .ok (.aaload, 1) := by decide +kernel
theorem dX2_giveBack_44 : decode cX2_giveBack 44 = .ok (.astore_n 2, 1) := by decide +kernel
theorem dX2_giveBack_45 : decode cX2_giveBack 45 = .ok (.aload_n 2, 1) := by decide +kernel
theorem dX2_giveBack_46 : decode cX2_giveBack 46 = .ok (.iconst 0, 1) := by decide +kernel
theorem dX2_giveBack_47 : decode cX2_giveBack 47 = .ok (.aload_n 1, 1) := by decide +kernel
theorem dX2_giveBack_48 : decode cX2_giveBack 48 = .ok (.getfield 23, 3) := by decide +kernel
theorem dX2_giveBack_51 : decode cX2_giveBack 51 = .ok (.iconst 0, 1) := by decide +kernel
theorem dX2_giveBack_52 : decode cX2_giveBack 52 = .ok (.iconst 5, 1) := by decide +kernel
theorem dX2_giveBack_53 : decode cX2_giveBack 53 = .ok (.invokestatic 29, 3) := by decide +kernel
theorem dX2_giveBack_56 : decode cX2_giveBack 56 = .ok (.aload_n 2, 1) := by decide +kernel
theorem dX2_giveBack_57 : decode cX2_giveBack 57 = .ok (.iconst 5, 1) := by decide +kernel
theorem dX2_giveBack_58 : decode cX2_giveBack 58 = .ok (.aload_n 1, 1) := by decide +kernel
theorem dX2_giveBack_59 : decode cX2_giveBack 59 = .ok (.getfield 35, 3) := by decide +kernel
theorem dX2_giveBack_62 : decode cX2_giveBack 62 = .ok (.iconst 0, 1) := by decide +kernel
theorem dX2_giveBack_63 : decode cX2_giveBack 63 = .ok (.bipush 6, 2) := by decide +kernel
theorem dX2_giveBack_65 : decode cX2_giveBack 65 = .ok (.invokestatic 29, 3) := by decide +kernel
theorem dX2_giveBack_68 : decode cX2_giveBack 68 = .ok (.aload_n 2, 1) := by decide +kernel
theorem dX2_giveBack_69 : decode cX2_giveBack 69 = .ok (.bipush 11, 2) := by decide +kernel
theorem dX2_giveBack_71 : decode cX2_giveBack 71 = .ok (.aload_n 1, 1) := by decide +kernel
theorem dX2_giveBack_72 : decode cX2_giveBack 72 = .ok (.getfield 38, 3) := by decide +kernel
theorem dX2_giveBack_75 : decode cX2_giveBack 75 = .ok (.iconst 0, 1) := by decide +kernel
theorem dX2_giveBack_76 : decode cX2_giveBack 76 = .ok (.bipush 6, 2) := by decide +kernel
theorem dX2_giveBack_78 : decode cX2_giveBack 78 = .ok (.invokestatic 29, 3) := by decide +kernel
theorem dX2_giveBack_81 : decode cX2_giveBack 81 = .ok (.aload_n 1, 1) := by decide +kernel
theorem dX2_giveBack_82 : decode cX2_giveBack 82 = .ok (.aload_n 2, 1) := by decide +kernel
theorem dX2_giveBack_83 : decode cX2_giveBack 83 = .ok (.bipush 17, 2) := by decide +kernel
theorem dX2_giveBack_85 : decode cX2_giveBack 85 = .ok (.iaload, 1) := by decide +kernel
theorem dX2_giveBack_86 : decode cX2_giveBack 86 = .ok (.putfield 41, 3) := by decide +kernel
theorem dX2_giveBack_89 : decode cX2_giveBack 89 = .ok (.aload_n 1, 1) := by decide +kernel
theorem dX2_giveBack_90 : decode cX2_giveBack 90 = .ok (.aload_n 2, 1) := by decide +kernel
theorem dX2_giveBack_91 : decode cX2_giveBack 91 = .ok (.bipush 18, 2) := by decide +kernel
theorem dX2_giveBack_93 : decode cX2_giveBack 93 = .ok (.iaload, 1) := by decide +kernel
theorem dX2_giveBack_94 : decode cX2_giveBack 94 = .ok (.putfield 44, 3) := by decide +kernel
theorem dX2_giveBack_97 : decode cX2_giveBack 97 = .ok (.iconst 1, 1) := by decide +kernel
theorem dX2_giveBack_98 : decode cX2_giveBack 98 = .ok (.ireturn, 1) := by decide +kernel
theorem dX2_take_0 : decode cX2_take 0 = .ok (.iconst 0, 1) := by decide +kernel
theorem dX2_take_1 : decode cX2_take 1 = .ok (.istore_n 2, 1) := by decide +kernel
theorem dX2_take_2 : decode cX2_take 2 = .ok (.iload_n 2, 1) := by decide +kernel
theorem dX2_take_3 : decode cX2_take 3 = .ok (.bipush 8, 2) := by decide +kernel
theorem dX2_take_5 : decode cX2_take 5 = .ok (.if_icmp .ge 28, 3) := by decide +kernel
theorem dX2_take_8 : decode cX2_take 8 = .ok (.aload_n 1, 1) := by decide +kernel
theorem dX2_take_9 : decode cX2_take 9 = .ok (.getfield 13, 3) := by decide +kernel
theorem dX2_take_12 : decode cX2_take 12 = .ok (.iload_n 2, 1) := by decide +kernel
theorem dX2_take_13 : decode cX2_take 13 = .ok (.aaload, 1) := by decide +kernel
theorem dX2_take_14 : decode cX2_take 14 = .ok (.iconst 0, 1) := by decide +kernel
theorem dX2_take_15 : decode cX2_take 15 = .ok (.aload_n 0, 1) := by decide +kernel
theorem dX2_take_16 : decode cX2_take 16 = .ok (.getfield 13, 3) := by decide +kernel
theorem dX2_take_19 : decode cX2_take 19 = .ok (.iload_n 2, 1) := by decide +kernel
theorem dX2_take_20 : decode cX2_take 20 = .ok (.aaload, 1) := by decide +kernel
theorem dX2_take_21 : decode cX2_take 21 = .ok (.iconst 0, 1) := by decide +kernel
theorem dX2_take_22 : decode cX2_take 22 = .ok (.bipush 19, 2) := by decide +kernel
theorem dX2_take_24 : decode cX2_take 24 = .ok (.invokestatic 29, 3) := by decide +kernel
theorem dX2_take_27 : decode cX2_take 27 = .ok (.iinc 2 1, 3) := by decide +kernel
theorem dX2_take_30 : decode cX2_take 30 = .ok (.goto (-28), 3) := by decide +kernel
theorem dX2_take_33 : decode cX2_take 33 = .ok (.aload_n 0, 1) := by decide +kernel
theorem dX2_take_34 : decode cX2_take 34 = .ok (.aload_n 1, 1) := by decide +kernel
theorem dX2_take_35 : decode cX2_take 35 = .ok (.getfield 16, 3) := by decide +kernel
theorem dX2_take_38 : decode cX2_take 38 = .ok (.putfield 16, 3) := by decide +kernel
theorem dX2_take_41 : decode cX2_take 41 = .ok (.aload_n 0, 1) := by decide +kernel
theorem dX2_take_42 : decode cX2_take 42 = .ok (.aload_n 1, 1) := by decide +kernel
theorem dX2_take_43 : decode cX2_take 43 = .ok (.getfield 20, 3) := by decide +kernel
theorem dX2_take_46 : decode cX2_take 46 = .ok (.putfield 20, 3) := by decide +kernel
theorem dX2_take_49 : decode cX2_take 49 = .ok (.return_, 1) := by decide +kernel
theorem dX3_begin_0 : decode cX3_begin 0 = .ok (.aload_n 0, 1) := by decide +kernel
theorem dX3_begin_1 : decode cX3_begin 1 = .ok (.iconst 1, 1) := by decide +kernel
theorem dX3_begin_2 : decode cX3_begin 2 = .ok (.putfield 9, 3) := by decide +kernel
theorem dX3_begin_5 : decode cX3_begin 5 = .ok (.aload_n 0, 1) := by decide +kernel
theorem dX3_begin_6 : decode cX3_begin 6 = .ok (.iload_n 1, 1) := by decide +kernel
theorem dX3_begin_7 : decode cX3_begin 7 = .ok (.putfield 15, 3) := by decide +kernel
theorem dX3_begin_10 : decode cX3_begin 10 = .ok (.aload_n 0, 1) := by decide +kernel
theorem dX3_begin_11 : decode cX3_begin 11 = .ok (.iload_n 2, 1) := by decide +kernel
theorem dX3_begin_12 : decode cX3_begin 12 = .ok (.putfield 19, 3) := by decide +kernel
theorem dX3_begin_15 : decode cX3_begin 15 = .ok (.iconst 0, 1) := by decide +kernel
theorem dX3_begin_16 : decode cX3_begin 16 = .ok (.istore_n 3, 1) := by decide +kernel
theorem dX3_begin_17 : decode cX3_begin 17 = .ok (.iload_n 3, 1) := by decide +kernel
theorem dX3_begin_18 : decode cX3_begin 18 = .ok (.bipush 24, 2) := by decide +kernel
theorem dX3_begin_20 : decode cX3_begin 20 = .ok (.if_icmp .ge 16, 3) := by decide +kernel
theorem dX3_begin_23 : decode cX3_begin 23 = .ok (.aload_n 0, 1) := by decide +kernel
theorem dX3_begin_24 : decode cX3_begin 24 = .ok (.getfield 22, 3) := by decide +kernel
theorem dX3_begin_27 : decode cX3_begin 27 = .ok (.iload_n 3, 1) := by decide +kernel
theorem dX3_begin_28 : decode cX3_begin 28 = .ok (.lconst 0, 1) := by decide +kernel
theorem dX3_begin_29 : decode cX3_begin 29 = .ok (.lastore, 1) := by decide +kernel
theorem dX3_begin_30 : decode cX3_begin 30 = .ok (.iinc 3 1, 3) := by decide +kernel
theorem dX3_begin_33 : decode cX3_begin 33 = .ok (.goto (-16), 3) := by decide +kernel
theorem dX3_begin_36 : decode cX3_begin 36 = .ok (.return_, 1) := by decide +kernel
set_option maxRecDepth 20000 in
theorem ggX3_refuses_X3_reaches : GoodIn wsX3_refuses wsX3_reaches := goodIn_r _ [7, 8, 9, 10, 11, 12] (by decide +kernel) (by decide +kernel)
set_option maxRecDepth 20000 in
theorem gX3_refuses_X3_reaches : GoodIn wsX3_refuses (wsV RX3 26 RX3 yX3_reaches wsX3_reaches) := goodIn_app (goodIn_of _ (by decide +kernel)) ggX3_refuses_X3_reaches
theorem dX3_refuses_0 : decode cX3_refuses 0 = .ok (.aload_n 0, 1) := by decide +kernel
theorem dX3_refuses_1 : decode cX3_refuses 1 = .ok (.getfield 9, 3) := by decide +kernel
theorem dX3_refuses_4 : decode cX3_refuses 4 = .ok (.ifCond .ne 6, 3) := by decide +kernel
theorem dX3_refuses_7 : decode cX3_refuses 7 = .ok (.bipush (-11), 2) := by decide +kernel
theorem dX3_refuses_9 : decode cX3_refuses 9 = .ok (.ireturn, 1) := by decide +kernel
theorem dX3_refuses_10 : decode cX3_refuses 10 = .ok (.aload_n 0, 1) := by decide +kernel
theorem dX3_refuses_11 : decode cX3_refuses 11 = .ok (.getfield 15, 3) := by decide +kernel
theorem dX3_refuses_14 : decode cX3_refuses 14 = .ok (.iload_n 1, 1) := by decide +kernel
theorem dX3_refuses_15 : decode cX3_refuses 15 = .ok (.if_icmp .eq 6, 3) := by decide +kernel
theorem dX3_refuses_18 : decode cX3_refuses 18 = .ok (.bipush (-12), 2) := by decide +kernel
theorem dX3_refuses_20 : decode cX3_refuses 20 = .ok (.ireturn, 1) := by decide +kernel
theorem dX3_refuses_21 : decode cX3_refuses 21 = .ok (.aload_n 0, 1) := by decide +kernel
theorem dX3_refuses_22 : decode cX3_refuses 22 = .ok (.iload_n 2, 1) := by decide +kernel
theorem dX3_refuses_23 : decode cX3_refuses 23 = .ok (.iload_n 3, 1) := by decide +kernel
theorem dX3_refuses_24 : decode cX3_refuses 24 = .ok (.invokevirtual 26, 3) := by decide +kernel
theorem dX3_refuses_27 : decode cX3_refuses 27 = .ok (.ifCond .eq 7, 3) := by decide +kernel
theorem dX3_refuses_30 : decode cX3_refuses 30 = .ok (.iconst 0, 1) := by decide +kernel
theorem dX3_refuses_31 : decode cX3_refuses 31 = .ok (.goto 5, 3) := by decide +kernel
theorem dX3_refuses_34 : decode cX3_refuses 34 = .ok (.bipush (-13), 2) := by decide +kernel
theorem dX3_refuses_36 : decode cX3_refuses 36 = .ok (.ireturn, 1) := by decide +kernel
theorem dX3_reaches_0 : decode cX3_reaches 0 = .ok (.iload_n 1, 1) := by decide +kernel
theorem dX3_reaches_1 : decode cX3_reaches 1 = .ok (.ifCond .lt 21, 3) := by decide +kernel
theorem dX3_reaches_4 : decode cX3_reaches 4 = .ok (.iload_n 2, 1) := by decide +kernel
theorem dX3_reaches_5 : decode cX3_reaches 5 = .ok (.ifCond .lt 17, 3) := by decide +kernel
theorem dX3_reaches_8 : decode cX3_reaches 8 = .ok (.iload_n 2, 1) := by decide +kernel
theorem dX3_reaches_9 : decode cX3_reaches 9 = .ok (.aload_n 0, 1) := by decide +kernel
theorem dX3_reaches_10 : decode cX3_reaches 10 = .ok (.getfield 19, 3) := by decide +kernel
theorem dX3_reaches_13 : decode cX3_reaches 13 = .ok (.iload_n 1, 1) := by decide +kernel
theorem dX3_reaches_14 : decode cX3_reaches 14 = .ok (.isub, 1) := by decide +kernel
theorem dX3_reaches_15 : decode cX3_reaches 15 = .ok (.if_icmp .gt 7, 3) := by decide +kernel
theorem dX3_reaches_18 : decode cX3_reaches 18 = .ok (.iconst 1, 1) := by decide +kernel
theorem dX3_reaches_19 : decode cX3_reaches 19 = .ok (.goto 4, 3) := by decide +kernel
theorem dX3_reaches_22 : decode cX3_reaches 22 = .ok (.iconst 0, 1) := by decide +kernel
theorem dX3_reaches_23 : decode cX3_reaches 23 = .ok (.ireturn, 1) := by decide +kernel
theorem dX3_put_0 : decode cX3_put 0 = .ok (.aload_n 0, 1) := by decide +kernel
theorem dX3_put_1 : decode cX3_put 1 = .ok (.getfield 15, 3) := by decide +kernel
theorem dX3_put_4 : decode cX3_put 4 = .ok (.tableswitch 66 0 2 #[28, 41, 54], 28) := by decide +kernel
theorem dX3_put_32 : decode cX3_put 32 = .ok (.aload_n 0, 1) := by decide +kernel
theorem dX3_put_33 : decode cX3_put 33 = .ok (.getfield 22, 3) := by decide +kernel
theorem dX3_put_36 : decode cX3_put 36 = .ok (.iload_n 1, 1) := by decide +kernel
theorem dX3_put_37 : decode cX3_put 37 = .ok (.lload_n 2, 1) := by decide +kernel
theorem dX3_put_38 : decode cX3_put 38 = .ok (.l2i, 1) := by decide +kernel
theorem dX3_put_39 : decode cX3_put 39 = .ok (.i2b, 1) := by decide +kernel
theorem dX3_put_40 : decode cX3_put 40 = .ok (.i2l, 1) := by decide +kernel
theorem dX3_put_41 : decode cX3_put 41 = .ok (.lastore, 1) := by decide +kernel
theorem dX3_put_42 : decode cX3_put 42 = .ok (.goto 35, 3) := by decide +kernel
theorem dX3_put_45 : decode cX3_put 45 = .ok (.aload_n 0, 1) := by decide +kernel
theorem dX3_put_46 : decode cX3_put 46 = .ok (.getfield 22, 3) := by decide +kernel
theorem dX3_put_49 : decode cX3_put 49 = .ok (.iload_n 1, 1) := by decide +kernel
theorem dX3_put_50 : decode cX3_put 50 = .ok (.lload_n 2, 1) := by decide +kernel
theorem dX3_put_51 : decode cX3_put 51 = .ok (.l2i, 1) := by decide +kernel
theorem dX3_put_52 : decode cX3_put 52 = .ok (.i2s, 1) := by decide +kernel
theorem dX3_put_53 : decode cX3_put 53 = .ok (.i2l, 1) := by decide +kernel
theorem dX3_put_54 : decode cX3_put 54 = .ok (.lastore, 1) := by decide +kernel
theorem dX3_put_55 : decode cX3_put 55 = .ok (.goto 22, 3) := by decide +kernel
theorem dX3_put_58 : decode cX3_put 58 = .ok (.aload_n 0, 1) := by decide +kernel
theorem dX3_put_59 : decode cX3_put 59 = .ok (.getfield 22, 3) := by decide +kernel
theorem dX3_put_62 : decode cX3_put 62 = .ok (.iload_n 1, 1) := by decide +kernel
theorem dX3_put_63 : decode cX3_put 63 = .ok (.lload_n 2, 1) := by decide +kernel
theorem dX3_put_64 : decode cX3_put 64 = .ok (.l2i, 1) := by decide +kernel
theorem dX3_put_65 : decode cX3_put 65 = .ok (.i2l, 1) := by decide +kernel
theorem dX3_put_66 : decode cX3_put 66 = .ok (.lastore, 1) := by decide +kernel
theorem dX3_put_67 : decode cX3_put 67 = .ok (.goto 10, 3) := by decide +kernel
theorem dX3_put_70 : decode cX3_put 70 = .ok (.aload_n 0, 1) := by decide +kernel
theorem dX3_put_71 : decode cX3_put 71 = .ok (.getfield 22, 3) := by decide +kernel
theorem dX3_put_74 : decode cX3_put 74 = .ok (.iload_n 1, 1) := by decide +kernel
theorem dX3_put_75 : decode cX3_put 75 = .ok (.lload_n 2, 1) := by decide +kernel
theorem dX3_put_76 : decode cX3_put 76 = .ok (.lastore, 1) := by decide +kernel
theorem dX3_put_77 : decode cX3_put 77 = .ok (.return_, 1) := by decide +kernel
theorem dX4_add_0 : decode cX4_add 0 = .ok (.aload_n 0, 1) := by decide +kernel
theorem dX4_add_1 : decode cX4_add 1 = .ok (.getfield 15, 3) := by decide +kernel
theorem dX4_add_4 : decode cX4_add 4 = .ok (.bipush 90, 2) := by decide +kernel
theorem dX4_add_6 : decode cX4_add 6 = .ok (.if_icmp .lt 5, 3) := by decide +kernel
theorem dX4_add_9 : decode cX4_add 9 = .ok (.iconst 0, 1) := by decide +kernel
theorem dX4_add_10 : decode cX4_add 10 = .ok (.ireturn, 1) := by decide +kernel
theorem dX4_add_11 : decode cX4_add 11 = .ok (.aload_n 0, 1) := by decide +kernel
theorem dX4_add_12 : decode cX4_add 12 = .ok (.getfield 9, 3) := by decide +kernel
theorem dX4_add_15 : decode cX4_add 15 = .ok (.aload_n 0, 1) := by decide +kernel
theorem dX4_add_16 : decode cX4_add 16 = .ok (.getfield 15, 3) := by decide +kernel
theorem dX4_add_19 : decode cX4_add 19 = .ok (.iload_n 1, 1) := by decide +kernel
theorem dX4_add_20 : decode cX4_add 20 = .ok (.castore, 1) := by decide +kernel
theorem dX4_add_21 : decode cX4_add 21 = .ok (.aload_n 0, 1) := by decide +kernel
theorem dX4_add_22 : decode cX4_add 22 = .ok (.dup, 1) := by decide +kernel
theorem dX4_add_23 : decode cX4_add 23 = .ok (.getfield 15, 3) := by decide +kernel
theorem dX4_add_26 : decode cX4_add 26 = .ok (.iconst 1, 1) := by decide +kernel
theorem dX4_add_27 : decode cX4_add 27 = .ok (.iadd, 1) := by decide +kernel
theorem dX4_add_28 : decode cX4_add 28 = .ok (.putfield 15, 3) := by decide +kernel
theorem dX4_add_31 : decode cX4_add 31 = .ok (.iconst 1, 1) := by decide +kernel
theorem dX4_add_32 : decode cX4_add 32 = .ok (.ireturn, 1) := by decide +kernel
set_option maxRecDepth 20000 in
theorem ggX4_readState_X4_readMen : GoodIn wsX4_readState wsX4_readMen := goodIn_r _ [6, 7, 8, 9, 5, 10, 11, 12, 13, 14, 1, 15, 16, 17, 18, 19, 20, 21, 22, 23, 24, 25, 26, 27, 28, 29, 30, 31, 32, 33, 34, 35, 36, 37, 38, 39, 68, 69, 70, 71, 72, 73, 74, 75, 76, 77, 78, 79, 80] (by decide +kernel) (by decide +kernel)
set_option maxRecDepth 20000 in
theorem gX4_readState_X4_readMen : GoodIn wsX4_readState (wsV RX4 22 RX4 yX4_readMen wsX4_readMen) := goodIn_app (goodIn_of _ (by decide +kernel)) ggX4_readState_X4_readMen
set_option maxRecDepth 20000 in
theorem ggX4_readState_X4_takes : GoodIn wsX4_readState wsX4_takes := goodIn_r _ [31, 1, 15, 16, 17, 5, 18, 19, 20, 21, 22, 23, 24, 68, 69, 70] (by decide +kernel) (by decide +kernel)
set_option maxRecDepth 20000 in
theorem gX4_readState_X4_takes : GoodIn wsX4_readState (wsV RX4 26 RX4 yX4_takes wsX4_takes) := goodIn_app (goodIn_of _ (by decide +kernel)) ggX4_readState_X4_takes
set_option maxRecDepth 20000 in
theorem ggX4_readState_X4_readMedals : GoodIn wsX4_readState wsX4_readMedals := goodIn_r _ [43, 44, 45, 46, 5, 47, 1, 15, 16, 17, 18, 19, 20, 21, 22, 23, 24, 48, 49, 50, 11, 12, 13, 14, 25, 26, 27, 28, 29, 30, 31, 51, 52, 53, 54, 55, 56, 57, 35, 58, 37, 59, 60, 61, 62, 63, 64, 65, 66, 67, 68, 69, 70, 71, 72, 73, 74, 75, 76, 77, 78, 79, 80] (by decide +kernel) (by decide +kernel)
set_option maxRecDepth 20000 in
theorem gX4_readState_X4_readMedals : GoodIn wsX4_readState (wsV RX4 30 RX4 yX4_readMedals wsX4_readMedals) := goodIn_app (goodIn_of _ (by decide +kernel)) ggX4_readState_X4_readMedals
set_option maxRecDepth 20000 in
theorem ggX4_readState_X4_nextLetter : GoodIn wsX4_readState wsX4_nextLetter := goodIn_r _ [18, 1, 19, 20, 21, 22, 23, 5, 24, 68, 69, 70] (by decide +kernel) (by decide +kernel)
set_option maxRecDepth 20000 in
theorem gX4_readState_X4_nextLetter : GoodIn wsX4_readState (wsV RX4 33 RX4 yX4_nextLetter wsX4_nextLetter) := goodIn_app (goodIn_of _ (by decide +kernel)) ggX4_readState_X4_nextLetter
theorem dX4_readState_0 : decode cX4_readState 0 = .ok (.aload_n 0, 1) := by decide +kernel
theorem dX4_readState_1 : decode cX4_readState 1 = .ok (.iconst 0, 1) := by decide +kernel
theorem dX4_readState_2 : decode cX4_readState 2 = .ok (.putfield 19, 3) := by decide +kernel
theorem dX4_readState_5 : decode cX4_readState 5 = .ok (.aload_n 0, 1) := by decide +kernel
theorem dX4_readState_6 : decode cX4_readState 6 = .ok (.aload_n 1, 1) := by decide +kernel
theorem dX4_readState_7 : decode cX4_readState 7 = .ok (.invokevirtual 22, 3) := by decide +kernel
theorem dX4_readState_10 : decode cX4_readState 10 = .ok (.ifCond .ne 5, 3) := by decide +kernel
theorem dX4_readState_13 : decode cX4_readState 13 = .ok (.iconst 0, 1) := by decide +kernel
theorem dX4_readState_14 : decode cX4_readState 14 = .ok (.ireturn, 1) := by decide +kernel
theorem dX4_readState_15 : decode cX4_readState 15 = .ok (.aload_n 0, 1) := by decide +kernel
theorem dX4_readState_16 : decode cX4_readState 16 = .ok (.bipush 59, 2) := by decide +kernel
theorem dX4_readState_18 : decode cX4_readState 18 = .ok (.invokevirtual 26, 3) := by decide +kernel
theorem dX4_readState_21 : decode cX4_readState 21 = .ok (.ifCond .eq 13, 3) := by decide +kernel
theorem dX4_readState_24 : decode cX4_readState 24 = .ok (.aload_n 0, 1) := by decide +kernel
theorem dX4_readState_25 : decode cX4_readState 25 = .ok (.aload_n 1, 1) := by decide +kernel
theorem dX4_readState_26 : decode cX4_readState 26 = .ok (.invokevirtual 30, 3) := by decide +kernel
theorem dX4_readState_29 : decode cX4_readState 29 = .ok (.ifCond .ne 5, 3) := by decide +kernel
theorem dX4_readState_32 : decode cX4_readState 32 = .ok (.iconst 0, 1) := by decide +kernel
theorem dX4_readState_33 : decode cX4_readState 33 = .ok (.ireturn, 1) := by decide +kernel
theorem dX4_readState_34 : decode cX4_readState 34 = .ok (.aload_n 0, 1) := by decide +kernel
theorem dX4_readState_35 : decode cX4_readState 35 = .ok (.invokevirtual 33, 3) := by decide +kernel
theorem dX4_readState_38 : decode cX4_readState 38 = .ok (.ifCond .ne 7, 3) := by decide +kernel
theorem dX4_readState_41 : decode cX4_readState 41 = .ok (.iconst 1, 1) := by decide +kernel
theorem dX4_readState_42 : decode cX4_readState 42 = .ok (.goto 4, 3) := by decide +kernel
theorem dX4_readState_45 : decode cX4_readState 45 = .ok (.iconst 0, 1) := by decide +kernel
theorem dX4_readState_46 : decode cX4_readState 46 = .ok (.ireturn, 1) := by decide +kernel
set_option maxRecDepth 20000 in
theorem ggX4_readMen_X4_readMan : GoodIn wsX4_readMen wsX4_readMan := goodIn_r _ [5, 6, 7, 8, 4, 9, 10, 11, 12, 13, 14, 15, 16, 17, 18, 19, 20, 21, 22, 23, 24, 25, 26, 27, 28, 29, 30, 31, 32, 33, 34, 35, 36, 37, 38, 39, 40, 41, 42, 43, 44, 45, 46, 47, 48] (by decide +kernel) (by decide +kernel)
set_option maxRecDepth 20000 in
theorem gX4_readMen_X4_readMan : GoodIn wsX4_readMen (wsV RX4 37 RX4 yX4_readMan wsX4_readMan) := goodIn_app (goodIn_of _ (by decide +kernel)) ggX4_readMen_X4_readMan
set_option maxRecDepth 20000 in
theorem ggX4_readMen_X4_takes : GoodIn wsX4_readMen wsX4_takes := goodIn_r _ [27, 10, 11, 12, 13, 4, 14, 15, 16, 17, 18, 19, 20, 36, 37, 38] (by decide +kernel) (by decide +kernel)
set_option maxRecDepth 20000 in
theorem gX4_readMen_X4_takes : GoodIn wsX4_readMen (wsV RX4 26 RX4 yX4_takes wsX4_takes) := goodIn_app (goodIn_of _ (by decide +kernel)) ggX4_readMen_X4_takes
theorem dX4_readMen_0 : decode cX4_readMen 0 = .ok (.iconst 0, 1) := by decide +kernel
theorem dX4_readMen_1 : decode cX4_readMen 1 = .ok (.istore_n 2, 1) := by decide +kernel
theorem dX4_readMen_2 : decode cX4_readMen 2 = .ok (.iload_n 2, 1) := by decide +kernel
theorem dX4_readMen_3 : decode cX4_readMen 3 = .ok (.iconst 5, 1) := by decide +kernel
theorem dX4_readMen_4 : decode cX4_readMen 4 = .ok (.if_icmp .ge 35, 3) := by decide +kernel
theorem dX4_readMen_7 : decode cX4_readMen 7 = .ok (.aload_n 0, 1) := by decide +kernel
theorem dX4_readMen_8 : decode cX4_readMen 8 = .ok (.aload_n 1, 1) := by decide +kernel
theorem dX4_readMen_9 : decode cX4_readMen 9 = .ok (.invokevirtual 37, 3) := by decide +kernel
theorem dX4_readMen_12 : decode cX4_readMen 12 = .ok (.ifCond .ne 5, 3) := by decide +kernel
theorem dX4_readMen_15 : decode cX4_readMen 15 = .ok (.iconst 0, 1) := by decide +kernel
theorem dX4_readMen_16 : decode cX4_readMen 16 = .ok (.ireturn, 1) := by decide +kernel
theorem dX4_readMen_17 : decode cX4_readMen 17 = .ok (.iload_n 2, 1) := by decide +kernel
theorem dX4_readMen_18 : decode cX4_readMen 18 = .ok (.iconst 4, 1) := by decide +kernel
theorem dX4_readMen_19 : decode cX4_readMen 19 = .ok (.if_icmp .eq 12, 3) := by decide +kernel
theorem dX4_readMen_22 : decode cX4_readMen 22 = .ok (.aload_n 0, 1) := by decide +kernel
theorem dX4_readMen_23 : decode cX4_readMen 23 = .ok (.bipush 44, 2) := by decide +kernel
theorem dX4_readMen_25 : decode cX4_readMen 25 = .ok (.invokevirtual 26, 3) := by decide +kernel
theorem dX4_readMen_28 : decode cX4_readMen 28 = .ok (.ifCond .ne 5, 3) := by decide +kernel
theorem dX4_readMen_31 : decode cX4_readMen 31 = .ok (.iconst 1, 1) := by decide +kernel
theorem dX4_readMen_32 : decode cX4_readMen 32 = .ok (.ireturn, 1) := by decide +kernel
theorem dX4_readMen_33 : decode cX4_readMen 33 = .ok (.iinc 2 1, 3) := by decide +kernel
theorem dX4_readMen_36 : decode cX4_readMen 36 = .ok (.goto (-34), 3) := by decide +kernel
theorem dX4_readMen_39 : decode cX4_readMen 39 = .ok (.iconst 1, 1) := by decide +kernel
theorem dX4_readMen_40 : decode cX4_readMen 40 = .ok (.ireturn, 1) := by decide +kernel
set_option maxRecDepth 20000 in
theorem ggX4_readMan_X4_readNumber : GoodIn wsX4_readMan wsX4_readNumber := goodIn_r _ [5, 6, 7, 8, 9, 4, 10, 11, 12, 13, 14, 15, 16, 17, 18, 19, 32, 33, 34] (by decide +kernel) (by decide +kernel)
set_option maxRecDepth 20000 in
theorem gX4_readMan_X4_readNumber : GoodIn wsX4_readMan (wsV RX4 40 RX4 yX4_readNumber wsX4_readNumber) := goodIn_app (goodIn_of _ (by decide +kernel)) ggX4_readMan_X4_readNumber
set_option maxRecDepth 20000 in
theorem ggX4_readMan_X4_takes : GoodIn wsX4_readMan wsX4_takes := goodIn_r _ [23, 6, 7, 8, 9, 4, 10, 11, 12, 13, 14, 15, 16, 32, 33, 34] (by decide +kernel) (by decide +kernel)
set_option maxRecDepth 20000 in
theorem gX4_readMan_X4_takes : GoodIn wsX4_readMan (wsV RX4 26 RX4 yX4_takes wsX4_takes) := goodIn_app (goodIn_of _ (by decide +kernel)) ggX4_readMan_X4_takes
set_option maxRecDepth 20000 in
theorem ggX4_readMan_X1_addMan : GoodIn wsX4_readMan wsX1_addMan := goodIn_r _ [28, 29, 30, 31, 35, 36, 37, 38, 39, 40, 41, 42, 43, 44] (by decide +kernel) (by decide +kernel)
set_option maxRecDepth 20000 in
theorem gX4_readMan_X1_addMan : GoodIn wsX4_readMan (wsV RX4 44 RX1 yX1_addMan wsX1_addMan) := goodIn_app (goodIn_of _ (by decide +kernel)) ggX4_readMan_X1_addMan
theorem dX4_readMan_0 : decode cX4_readMan 0 = .ok (.aload_n 0, 1) := by decide +kernel
theorem dX4_readMan_1 : decode cX4_readMan 1 = .ok (.iconst 1, 1) := by decide +kernel
theorem dX4_readMan_2 : decode cX4_readMan 2 = .ok (.bipush 60, 2) := by decide +kernel
theorem dX4_readMan_4 : decode cX4_readMan 4 = .ok (.invokevirtual 40, 3) := by decide +kernel
theorem dX4_readMan_7 : decode cX4_readMan 7 = .ok (.istore_n 2, 1) := by decide +kernel
theorem dX4_readMan_8 : decode cX4_readMan 8 = .ok (.iload_n 2, 1) := by decide +kernel
theorem dX4_readMan_9 : decode cX4_readMan 9 = .ok (.ifCond .ge 5, 3) := by decide +kernel
theorem dX4_readMan_12 : decode cX4_readMan 12 = .ok (.iconst 0, 1) := by decide +kernel
theorem dX4_readMan_13 : decode cX4_readMan 13 = .ok (.ireturn, 1) := by decide +kernel
theorem dX4_readMan_14 : decode cX4_readMan 14 = .ok (.aload_n 0, 1) := by decide +kernel
theorem dX4_readMan_15 : decode cX4_readMan 15 = .ok (.bipush 45, 2) := by decide +kernel
theorem dX4_readMan_17 : decode cX4_readMan 17 = .ok (.invokevirtual 26, 3) := by decide +kernel
theorem dX4_readMan_20 : decode cX4_readMan 20 = .ok (.ifCond .eq 12, 3) := by decide +kernel
theorem dX4_readMan_23 : decode cX4_readMan 23 = .ok (.aload_n 0, 1) := by decide +kernel
theorem dX4_readMan_24 : decode cX4_readMan 24 = .ok (.iconst 0, 1) := by decide +kernel
theorem dX4_readMan_25 : decode cX4_readMan 25 = .ok (.iload_n 2, 1) := by decide +kernel
theorem dX4_readMan_26 : decode cX4_readMan 26 = .ok (.invokevirtual 40, 3) := by decide +kernel
theorem dX4_readMan_29 : decode cX4_readMan 29 = .ok (.goto 4, 3) := by decide +kernel
theorem dX4_readMan_32 : decode cX4_readMan 32 = .ok (.iconst 0, 1) := by decide +kernel
theorem dX4_readMan_33 : decode cX4_readMan 33 = .ok (.istore_n 3, 1) := by decide +kernel
theorem dX4_readMan_34 : decode cX4_readMan 34 = .ok (.iload_n 3, 1) := by decide +kernel
theorem dX4_readMan_35 : decode cX4_readMan 35 = .ok (.ifCond .ge 5, 3) := by decide +kernel
theorem dX4_readMan_38 : decode cX4_readMan 38 = .ok (.iconst 0, 1) := by decide +kernel
theorem dX4_readMan_39 : decode cX4_readMan 39 = .ok (.ireturn, 1) := by decide +kernel
theorem dX4_readMan_40 : decode cX4_readMan 40 = .ok (.aload_n 1, 1) := by decide +kernel
theorem dX4_readMan_41 : decode cX4_readMan 41 = .ok (.iload_n 2, 1) := by decide +kernel
theorem dX4_readMan_42 : decode cX4_readMan 42 = .ok (.iload_n 2, 1) := by decide +kernel
theorem dX4_readMan_43 : decode cX4_readMan 43 = .ok (.iload_n 3, 1) := by decide +kernel
theorem dX4_readMan_44 : decode cX4_readMan 44 = .ok (.isub, 1) := by decide +kernel
theorem dX4_readMan_45 : decode cX4_readMan 45 = .ok (.invokevirtual 44, 3) := by decide +kernel
theorem dX4_readMan_48 : decode cX4_readMan 48 = .ok (.pop, 1) := by decide +kernel
theorem dX4_readMan_49 : decode cX4_readMan 49 = .ok (.iconst 1, 1) := by decide +kernel
theorem dX4_readMan_50 : decode cX4_readMan 50 = .ok (.ireturn, 1) := by decide +kernel
set_option maxRecDepth 20000 in
theorem ggX4_readMedals_X4_readMedal : GoodIn wsX4_readMedals wsX4_readMedal := goodIn_r _ [5, 6, 7, 8, 9, 4, 10, 11, 12, 13, 14, 15, 16, 17, 18, 19, 20, 21, 22, 23, 24, 25, 26, 27, 28, 29, 30, 31, 32, 33, 34, 35, 36, 37, 38, 39, 40, 41, 42, 43, 44, 45, 46, 47, 48, 49, 50, 51, 52, 53, 54, 55, 56, 57, 58, 59, 60, 61, 62] (by decide +kernel) (by decide +kernel)
set_option maxRecDepth 20000 in
theorem gX4_readMedals_X4_readMedal : GoodIn wsX4_readMedals (wsV RX4 49 RX4 yX4_readMedal wsX4_readMedal) := goodIn_app (goodIn_of _ (by decide +kernel)) ggX4_readMedals_X4_readMedal
set_option maxRecDepth 20000 in
theorem ggX4_readMedals_X4_takes : GoodIn wsX4_readMedals wsX4_takes := goodIn_r _ [30, 6, 7, 8, 9, 4, 10, 11, 12, 13, 14, 15, 16, 50, 51, 52] (by decide +kernel) (by decide +kernel)
set_option maxRecDepth 20000 in
theorem gX4_readMedals_X4_takes : GoodIn wsX4_readMedals (wsV RX4 26 RX4 yX4_takes wsX4_takes) := goodIn_app (goodIn_of _ (by decide +kernel)) ggX4_readMedals_X4_takes
theorem dX4_readMedals_0 : decode cX4_readMedals 0 = .ok (.iconst 0, 1) := by decide +kernel
theorem dX4_readMedals_1 : decode cX4_readMedals 1 = .ok (.istore_n 2, 1) := by decide +kernel
theorem dX4_readMedals_2 : decode cX4_readMedals 2 = .ok (.iload_n 2, 1) := by decide +kernel
theorem dX4_readMedals_3 : decode cX4_readMedals 3 = .ok (.bipush 6, 2) := by decide +kernel
theorem dX4_readMedals_5 : decode cX4_readMedals 5 = .ok (.if_icmp .ge 35, 3) := by decide +kernel
theorem dX4_readMedals_8 : decode cX4_readMedals 8 = .ok (.aload_n 0, 1) := by decide +kernel
theorem dX4_readMedals_9 : decode cX4_readMedals 9 = .ok (.aload_n 1, 1) := by decide +kernel
theorem dX4_readMedals_10 : decode cX4_readMedals 10 = .ok (.invokevirtual 49, 3) := by decide +kernel
theorem dX4_readMedals_13 : decode cX4_readMedals 13 = .ok (.ifCond .ne 5, 3) := by decide +kernel
theorem dX4_readMedals_16 : decode cX4_readMedals 16 = .ok (.iconst 0, 1) := by decide +kernel
theorem dX4_readMedals_17 : decode cX4_readMedals 17 = .ok (.ireturn, 1) := by decide +kernel
theorem dX4_readMedals_18 : decode cX4_readMedals 18 = .ok (.iload_n 2, 1) := by decide +kernel
theorem dX4_readMedals_19 : decode cX4_readMedals 19 = .ok (.iconst 5, 1) := by decide +kernel
theorem dX4_readMedals_20 : decode cX4_readMedals 20 = .ok (.if_icmp .eq 12, 3) := by decide +kernel
theorem dX4_readMedals_23 : decode cX4_readMedals 23 = .ok (.aload_n 0, 1) := by decide +kernel
theorem dX4_readMedals_24 : decode cX4_readMedals 24 = .ok (.bipush 44, 2) := by decide +kernel
theorem dX4_readMedals_26 : decode cX4_readMedals 26 = .ok (.invokevirtual 26, 3) := by decide +kernel
theorem dX4_readMedals_29 : decode cX4_readMedals 29 = .ok (.ifCond .ne 5, 3) := by decide +kernel
theorem dX4_readMedals_32 : decode cX4_readMedals 32 = .ok (.iconst 1, 1) := by decide +kernel
theorem dX4_readMedals_33 : decode cX4_readMedals 33 = .ok (.ireturn, 1) := by decide +kernel
theorem dX4_readMedals_34 : decode cX4_readMedals 34 = .ok (.iinc 2 1, 3) := by decide +kernel
theorem dX4_readMedals_37 : decode cX4_readMedals 37 = .ok (.goto (-35), 3) := by decide +kernel
theorem dX4_readMedals_40 : decode cX4_readMedals 40 = .ok (.iconst 1, 1) := by decide +kernel
theorem dX4_readMedals_41 : decode cX4_readMedals 41 = .ok (.ireturn, 1) := by decide +kernel
set_option maxRecDepth 20000 in
theorem ggX4_readMedal_X4_nextLetter : GoodIn wsX4_readMedal wsX4_nextLetter := goodIn_r _ [6, 1, 7, 8, 9, 10, 11, 5, 12, 46, 47, 48] (by decide +kernel) (by decide +kernel)
set_option maxRecDepth 20000 in
theorem gX4_readMedal_X4_nextLetter : GoodIn wsX4_readMedal (wsV RX4 33 RX4 yX4_nextLetter wsX4_nextLetter) := goodIn_app (goodIn_of _ (by decide +kernel)) ggX4_readMedal_X4_nextLetter
set_option maxRecDepth 20000 in
theorem ggX4_readMedal_X4_kindOf : GoodIn wsX4_readMedal wsX4_kindOf := goodIn_r _ [15] (by decide +kernel) (by decide +kernel)
set_option maxRecDepth 20000 in
theorem gX4_readMedal_X4_kindOf : GoodIn wsX4_readMedal (va_wsS RX4 52 yX4_kindOf wsX4_kindOf) := goodIn_app (goodIn_of _ (by decide +kernel)) ggX4_readMedal_X4_kindOf
set_option maxRecDepth 20000 in
theorem ggX4_readMedal_X4_readNumber : GoodIn wsX4_readMedal wsX4_readNumber := goodIn_r _ [19, 1, 2, 3, 4, 5, 6, 7, 8, 9, 10, 11, 12, 20, 21, 22, 46, 47, 48] (by decide +kernel) (by decide +kernel)
set_option maxRecDepth 20000 in
theorem gX4_readMedal_X4_readNumber : GoodIn wsX4_readMedal (wsV RX4 40 RX4 yX4_readNumber wsX4_readNumber) := goodIn_app (goodIn_of _ (by decide +kernel)) ggX4_readMedal_X4_readNumber
set_option maxRecDepth 20000 in
theorem ggX4_readMedal_X4_takes : GoodIn wsX4_readMedal wsX4_takes := goodIn_r _ [26, 1, 2, 3, 4, 5, 6, 7, 8, 9, 10, 11, 12, 46, 47, 48] (by decide +kernel) (by decide +kernel)
set_option maxRecDepth 20000 in
theorem gX4_readMedal_X4_takes : GoodIn wsX4_readMedal (wsV RX4 26 RX4 yX4_takes wsX4_takes) := goodIn_app (goodIn_of _ (by decide +kernel)) ggX4_readMedal_X4_takes
set_option maxRecDepth 20000 in
theorem ggX4_readMedal_X4_readManOf : GoodIn wsX4_readMedal wsX4_readManOf := goodIn_r _ [30, 1, 2, 3, 4, 5, 6, 7, 8, 9, 10, 11, 12, 20, 21, 22, 31, 32, 33, 34, 35, 36, 46, 47, 48, 49, 50, 51, 52, 53, 54, 55, 56, 57, 58] (by decide +kernel) (by decide +kernel)
set_option maxRecDepth 20000 in
theorem gX4_readMedal_X4_readManOf : GoodIn wsX4_readMedal (wsV RX4 56 RX4 yX4_readManOf wsX4_readManOf) := goodIn_app (goodIn_of _ (by decide +kernel)) ggX4_readMedal_X4_readManOf
set_option maxRecDepth 20000 in
theorem ggX4_readMedal_X1_addMedal : GoodIn wsX4_readMedal wsX1_addMedal := goodIn_r _ [40, 41, 42, 43, 44, 45, 49, 50, 51, 52, 53, 54, 55, 56, 57, 58] (by decide +kernel) (by decide +kernel)
set_option maxRecDepth 20000 in
theorem gX4_readMedal_X1_addMedal : GoodIn wsX4_readMedal (wsV RX4 60 RX1 yX1_addMedal wsX1_addMedal) := goodIn_app (goodIn_of _ (by decide +kernel)) ggX4_readMedal_X1_addMedal
theorem dX4_readMedal_0 : decode cX4_readMedal 0 = .ok (.aload_n 0, 1) := by decide +kernel
theorem dX4_readMedal_1 : decode cX4_readMedal 1 = .ok (.invokevirtual 33, 3) := by decide +kernel
theorem dX4_readMedal_4 : decode cX4_readMedal 4 = .ok (.invokestatic 52, 3) := by decide +kernel
theorem dX4_readMedal_7 : decode cX4_readMedal 7 = .ok (.istore_n 2, 1) := by decide +kernel
theorem dX4_readMedal_8 : decode cX4_readMedal 8 = .ok (.iload_n 2, 1) := by decide +kernel
theorem dX4_readMedal_9 : decode cX4_readMedal 9 = .ok (.ifCond .ge 5, 3) := by decide +kernel
theorem dX4_readMedal_12 : decode cX4_readMedal 12 = .ok (.iconst 0, 1) := by decide +kernel
theorem dX4_readMedal_13 : decode cX4_readMedal 13 = .ok (.ireturn, 1) := by decide +kernel
theorem dX4_readMedal_14 : decode cX4_readMedal 14 = .ok (.aload_n 0, 1) := by decide +kernel
theorem dX4_readMedal_15 : decode cX4_readMedal 15 = .ok (.dup, 1) := by decide +kernel
theorem dX4_readMedal_16 : decode cX4_readMedal 16 = .ok (.getfield 19, 3) := by decide +kernel
theorem dX4_readMedal_19 : decode cX4_readMedal 19 = .ok (.iconst 1, 1) := by decide +kernel
theorem dX4_readMedal_20 : decode cX4_readMedal 20 = .ok (.iadd, 1) := by decide +kernel
theorem dX4_readMedal_21 : decode cX4_readMedal 21 = .ok (.putfield 19, 3) := by decide +kernel
theorem dX4_readMedal_24 : decode cX4_readMedal 24 = .ok (.aload_n 0, 1) := by decide +kernel
theorem dX4_readMedal_25 : decode cX4_readMedal 25 = .ok (.iconst 1, 1) := by decide +kernel
theorem dX4_readMedal_26 : decode cX4_readMedal 26 = .ok (.bipush 20, 2) := by decide +kernel
theorem dX4_readMedal_28 : decode cX4_readMedal 28 = .ok (.invokevirtual 40, 3) := by decide +kernel
theorem dX4_readMedal_31 : decode cX4_readMedal 31 = .ok (.istore_n 3, 1) := by decide +kernel
theorem dX4_readMedal_32 : decode cX4_readMedal 32 = .ok (.iload_n 3, 1) := by decide +kernel
theorem dX4_readMedal_33 : decode cX4_readMedal 33 = .ok (.ifCond .lt 12, 3) := by decide +kernel
theorem dX4_readMedal_36 : decode cX4_readMedal 36 = .ok (.aload_n 0, 1) := by decide +kernel
theorem dX4_readMedal_37 : decode cX4_readMedal 37 = .ok (.bipush 58, 2) := by decide +kernel
theorem dX4_readMedal_39 : decode cX4_readMedal 39 = .ok (.invokevirtual 26, 3) := by decide +kernel
theorem dX4_readMedal_42 : decode cX4_readMedal 42 = .ok (.ifCond .ne 5, 3) := by decide +kernel
theorem dX4_readMedal_45 : decode cX4_readMedal 45 = .ok (.iconst 0, 1) := by decide +kernel
theorem dX4_readMedal_46 : decode cX4_readMedal 46 = .ok (.ireturn, 1) := by decide +kernel
theorem dX4_readMedal_47 : decode cX4_readMedal 47 = .ok (.aload_n 0, 1) := by decide +kernel
theorem dX4_readMedal_48 : decode cX4_readMedal 48 = .ok (.aload_n 1, 1) := by decide +kernel
theorem dX4_readMedal_49 : decode cX4_readMedal 49 = .ok (.invokevirtual 56, 3) := by decide +kernel
theorem dX4_readMedal_52 : decode cX4_readMedal 52 = .ok (.istore 4, 2) := by decide +kernel
theorem dX4_readMedal_54 : decode cX4_readMedal 54 = .ok (.iload 4, 2) := by decide +kernel
theorem dX4_readMedal_56 : decode cX4_readMedal 56 = .ok (.ifCond .ge 5, 3) := by decide +kernel
theorem dX4_readMedal_59 : decode cX4_readMedal 59 = .ok (.iconst 0, 1) := by decide +kernel
theorem dX4_readMedal_60 : decode cX4_readMedal 60 = .ok (.ireturn, 1) := by decide +kernel
theorem dX4_readMedal_61 : decode cX4_readMedal 61 = .ok (.bipush (-4), 2) := by decide +kernel
theorem dX4_readMedal_63 : decode cX4_readMedal 63 = .ok (.istore 5, 2) := by decide +kernel
theorem dX4_readMedal_65 : decode cX4_readMedal 65 = .ok (.aload_n 0, 1) := by decide +kernel
theorem dX4_readMedal_66 : decode cX4_readMedal 66 = .ok (.bipush 64, 2) := by decide +kernel
theorem dX4_readMedal_68 : decode cX4_readMedal 68 = .ok (.invokevirtual 26, 3) := by decide +kernel
theorem dX4_readMedal_71 : decode cX4_readMedal 71 = .ok (.ifCond .eq 17, 3) := by decide +kernel
theorem dX4_readMedal_74 : decode cX4_readMedal 74 = .ok (.aload_n 0, 1) := by decide +kernel
theorem dX4_readMedal_75 : decode cX4_readMedal 75 = .ok (.aload_n 1, 1) := by decide +kernel
theorem dX4_readMedal_76 : decode cX4_readMedal 76 = .ok (.invokevirtual 56, 3) := by decide +kernel
theorem dX4_readMedal_79 : decode cX4_readMedal 79 = .ok (.istore 5, 2) := by decide +kernel
theorem dX4_readMedal_81 : decode cX4_readMedal 81 = .ok (.iload 5, 2) := by decide +kernel
theorem dX4_readMedal_83 : decode cX4_readMedal 83 = .ok (.ifCond .ge 5, 3) := by decide +kernel
theorem dX4_readMedal_86 : decode cX4_readMedal 86 = .ok (.iconst 0, 1) := by decide +kernel
theorem dX4_readMedal_87 : decode cX4_readMedal 87 = .ok (.ireturn, 1) := by decide +kernel
theorem dX4_readMedal_88 : decode cX4_readMedal 88 = .ok (.aload_n 1, 1) := by decide +kernel
theorem dX4_readMedal_89 : decode cX4_readMedal 89 = .ok (.iload_n 2, 1) := by decide +kernel
theorem dX4_readMedal_90 : decode cX4_readMedal 90 = .ok (.iload_n 3, 1) := by decide +kernel
theorem dX4_readMedal_91 : decode cX4_readMedal 91 = .ok (.iload 4, 2) := by decide +kernel
theorem dX4_readMedal_93 : decode cX4_readMedal 93 = .ok (.iload 5, 2) := by decide +kernel
theorem dX4_readMedal_95 : decode cX4_readMedal 95 = .ok (.invokevirtual 60, 3) := by decide +kernel
theorem dX4_readMedal_98 : decode cX4_readMedal 98 = .ok (.pop, 1) := by decide +kernel
theorem dX4_readMedal_99 : decode cX4_readMedal 99 = .ok (.iconst 1, 1) := by decide +kernel
theorem dX4_readMedal_100 : decode cX4_readMedal 100 = .ok (.ireturn, 1) := by decide +kernel
theorem dX4_kindOf_0 : decode cX4_kindOf 0 = .ok (.iload_n 0, 1) := by decide +kernel
theorem dX4_kindOf_1 : decode cX4_kindOf 1 = .ok (.lookupswitch 61 #[(98, 51), (102, 55), (109, 59), (112, 57), (114, 53)], 51) := by decide +kernel
theorem dX4_kindOf_52 : decode cX4_kindOf 52 = .ok (.iconst 0, 1) := by decide +kernel
theorem dX4_kindOf_53 : decode cX4_kindOf 53 = .ok (.ireturn, 1) := by decide +kernel
theorem dX4_kindOf_54 : decode cX4_kindOf 54 = .ok (.iconst 1, 1) := by decide +kernel
theorem dX4_kindOf_55 : decode cX4_kindOf 55 = .ok (.ireturn, 1) := by decide +kernel
theorem dX4_kindOf_56 : decode cX4_kindOf 56 = .ok (.iconst 2, 1) := by decide +kernel
theorem dX4_kindOf_57 : decode cX4_kindOf 57 = .ok (.ireturn, 1) := by decide +kernel
theorem dX4_kindOf_58 : decode cX4_kindOf 58 = .ok (.iconst 3, 1) := by decide +kernel
theorem dX4_kindOf_59 : decode cX4_kindOf 59 = .ok (.ireturn, 1) := by decide +kernel
theorem dX4_kindOf_60 : decode cX4_kindOf 60 = .ok (.iconst 4, 1) := by decide +kernel
theorem dX4_kindOf_61 : decode cX4_kindOf 61 = .ok (.ireturn, 1) := by decide +kernel
theorem dX4_kindOf_62 : decode cX4_kindOf 62 = .ok (.iconst (-1), 1) := by decide +kernel
theorem dX4_kindOf_63 : decode cX4_kindOf 63 = .ok (.ireturn, 1) := by decide +kernel
set_option maxRecDepth 20000 in
theorem ggX4_nextLetter_X4_letterHere : GoodIn wsX4_nextLetter wsX4_letterHere := goodIn_r _ [8, 1, 2, 3, 9, 10, 11] (by decide +kernel) (by decide +kernel)
set_option maxRecDepth 20000 in
theorem gX4_nextLetter_X4_letterHere : GoodIn wsX4_nextLetter (wsV RX4 64 RX4 yX4_letterHere wsX4_letterHere) := goodIn_app (goodIn_of _ (by decide +kernel)) ggX4_nextLetter_X4_letterHere
theorem dX4_nextLetter_0 : decode cX4_nextLetter 0 = .ok (.aload_n 0, 1) := by decide +kernel
theorem dX4_nextLetter_1 : decode cX4_nextLetter 1 = .ok (.getfield 19, 3) := by decide +kernel
theorem dX4_nextLetter_4 : decode cX4_nextLetter 4 = .ok (.aload_n 0, 1) := by decide +kernel
theorem dX4_nextLetter_5 : decode cX4_nextLetter 5 = .ok (.getfield 15, 3) := by decide +kernel
theorem dX4_nextLetter_8 : decode cX4_nextLetter 8 = .ok (.if_icmp .ge 30, 3) := by decide +kernel
theorem dX4_nextLetter_11 : decode cX4_nextLetter 11 = .ok (.aload_n 0, 1) := by decide +kernel
theorem dX4_nextLetter_12 : decode cX4_nextLetter 12 = .ok (.getfield 9, 3) := by decide +kernel
theorem dX4_nextLetter_15 : decode cX4_nextLetter 15 = .ok (.aload_n 0, 1) := by decide +kernel
theorem dX4_nextLetter_16 : decode cX4_nextLetter 16 = .ok (.getfield 19, 3) := by decide +kernel
theorem dX4_nextLetter_19 : decode cX4_nextLetter 19 = .ok (.caload, 1) := by decide +kernel
theorem dX4_nextLetter_20 : decode cX4_nextLetter 20 = .ok (.bipush 32, 2) := by decide +kernel
theorem dX4_nextLetter_22 : decode cX4_nextLetter 22 = .ok (.if_icmp .ne 16, 3) := by decide +kernel
theorem dX4_nextLetter_25 : decode cX4_nextLetter 25 = .ok (.aload_n 0, 1) := by decide +kernel
theorem dX4_nextLetter_26 : decode cX4_nextLetter 26 = .ok (.dup, 1) := by decide +kernel
theorem dX4_nextLetter_27 : decode cX4_nextLetter 27 = .ok (.getfield 19, 3) := by decide +kernel
theorem dX4_nextLetter_30 : decode cX4_nextLetter 30 = .ok (.iconst 1, 1) := by decide +kernel
theorem dX4_nextLetter_31 : decode cX4_nextLetter 31 = .ok (.iadd, 1) := by decide +kernel
theorem dX4_nextLetter_32 : decode cX4_nextLetter 32 = .ok (.putfield 19, 3) := by decide +kernel
theorem dX4_nextLetter_35 : decode cX4_nextLetter 35 = .ok (.goto (-35), 3) := by decide +kernel
theorem dX4_nextLetter_38 : decode cX4_nextLetter 38 = .ok (.aload_n 0, 1) := by decide +kernel
theorem dX4_nextLetter_39 : decode cX4_nextLetter 39 = .ok (.invokevirtual 64, 3) := by decide +kernel
theorem dX4_nextLetter_42 : decode cX4_nextLetter 42 = .ok (.ireturn, 1) := by decide +kernel
theorem dX4_letterHere_0 : decode cX4_letterHere 0 = .ok (.aload_n 0, 1) := by decide +kernel
theorem dX4_letterHere_1 : decode cX4_letterHere 1 = .ok (.getfield 19, 3) := by decide +kernel
theorem dX4_letterHere_4 : decode cX4_letterHere 4 = .ok (.aload_n 0, 1) := by decide +kernel
theorem dX4_letterHere_5 : decode cX4_letterHere 5 = .ok (.getfield 15, 3) := by decide +kernel
theorem dX4_letterHere_8 : decode cX4_letterHere 8 = .ok (.if_icmp .ge 15, 3) := by decide +kernel
theorem dX4_letterHere_11 : decode cX4_letterHere 11 = .ok (.aload_n 0, 1) := by decide +kernel
theorem dX4_letterHere_12 : decode cX4_letterHere 12 = .ok (.getfield 9, 3) := by decide +kernel
theorem dX4_letterHere_15 : decode cX4_letterHere 15 = .ok (.aload_n 0, 1) := by decide +kernel
theorem dX4_letterHere_16 : decode cX4_letterHere 16 = .ok (.getfield 19, 3) := by decide +kernel
theorem dX4_letterHere_19 : decode cX4_letterHere 19 = .ok (.caload, 1) := by decide +kernel
theorem dX4_letterHere_20 : decode cX4_letterHere 20 = .ok (.goto 4, 3) := by decide +kernel
theorem dX4_letterHere_23 : decode cX4_letterHere 23 = .ok (.iconst 0, 1) := by decide +kernel
theorem dX4_letterHere_24 : decode cX4_letterHere 24 = .ok (.ireturn, 1) := by decide +kernel
set_option maxRecDepth 20000 in
theorem ggX4_takes_X4_nextLetter : GoodIn wsX4_takes wsX4_nextLetter := goodIn_r _ [6, 1, 7, 8, 9, 10, 11, 5, 12, 13, 14, 15] (by decide +kernel) (by decide +kernel)
set_option maxRecDepth 20000 in
theorem gX4_takes_X4_nextLetter : GoodIn wsX4_takes (wsV RX4 33 RX4 yX4_nextLetter wsX4_nextLetter) := goodIn_app (goodIn_of _ (by decide +kernel)) ggX4_takes_X4_nextLetter
theorem dX4_takes_0 : decode cX4_takes 0 = .ok (.aload_n 0, 1) := by decide +kernel
theorem dX4_takes_1 : decode cX4_takes 1 = .ok (.invokevirtual 33, 3) := by decide +kernel
theorem dX4_takes_4 : decode cX4_takes 4 = .ok (.iload_n 1, 1) := by decide +kernel
theorem dX4_takes_5 : decode cX4_takes 5 = .ok (.if_icmp .eq 5, 3) := by decide +kernel
theorem dX4_takes_8 : decode cX4_takes 8 = .ok (.iconst 0, 1) := by decide +kernel
theorem dX4_takes_9 : decode cX4_takes 9 = .ok (.ireturn, 1) := by decide +kernel
theorem dX4_takes_10 : decode cX4_takes 10 = .ok (.aload_n 0, 1) := by decide +kernel
theorem dX4_takes_11 : decode cX4_takes 11 = .ok (.dup, 1) := by decide +kernel
theorem dX4_takes_12 : decode cX4_takes 12 = .ok (.getfield 19, 3) := by decide +kernel
theorem dX4_takes_15 : decode cX4_takes 15 = .ok (.iconst 1, 1) := by decide +kernel
theorem dX4_takes_16 : decode cX4_takes 16 = .ok (.iadd, 1) := by decide +kernel
theorem dX4_takes_17 : decode cX4_takes 17 = .ok (.putfield 19, 3) := by decide +kernel
theorem dX4_takes_20 : decode cX4_takes 20 = .ok (.iconst 1, 1) := by decide +kernel
theorem dX4_takes_21 : decode cX4_takes 21 = .ok (.ireturn, 1) := by decide +kernel
set_option maxRecDepth 20000 in
theorem ggX4_readNumber_X4_nextLetter : GoodIn wsX4_readNumber wsX4_nextLetter := goodIn_r _ [6, 1, 7, 8, 9, 10, 11, 5, 12, 16, 17, 18] (by decide +kernel) (by decide +kernel)
set_option maxRecDepth 20000 in
theorem gX4_readNumber_X4_nextLetter : GoodIn wsX4_readNumber (wsV RX4 33 RX4 yX4_nextLetter wsX4_nextLetter) := goodIn_app (goodIn_of _ (by decide +kernel)) ggX4_readNumber_X4_nextLetter
set_option maxRecDepth 20000 in
theorem ggX4_readNumber_X4_isDigit : GoodIn wsX4_readNumber wsX4_isDigit := goodIn_r _ [15] (by decide +kernel) (by decide +kernel)
set_option maxRecDepth 20000 in
theorem gX4_readNumber_X4_isDigit : GoodIn wsX4_readNumber (va_wsS RX4 67 yX4_isDigit wsX4_isDigit) := goodIn_app (goodIn_of _ (by decide +kernel)) ggX4_readNumber_X4_isDigit
set_option maxRecDepth 20000 in
theorem ggX4_readNumber_X4_letterHere : GoodIn wsX4_readNumber wsX4_letterHere := goodIn_r _ [12, 1, 7, 8, 16, 17, 18] (by decide +kernel) (by decide +kernel)
set_option maxRecDepth 20000 in
theorem gX4_readNumber_X4_letterHere : GoodIn wsX4_readNumber (wsV RX4 64 RX4 yX4_letterHere wsX4_letterHere) := goodIn_app (goodIn_of _ (by decide +kernel)) ggX4_readNumber_X4_letterHere
theorem dX4_readNumber_0 : decode cX4_readNumber 0 = .ok (.aload_n 0, 1) := by decide +kernel
theorem dX4_readNumber_1 : decode cX4_readNumber 1 = .ok (.invokevirtual 33, 3) := by decide +kernel
theorem dX4_readNumber_4 : decode cX4_readNumber 4 = .ok (.invokestatic 67, 3) := by decide +kernel
theorem dX4_readNumber_7 : decode cX4_readNumber 7 = .ok (.ifCond .ne 5, 3) := by decide +kernel
theorem dX4_readNumber_10 : decode cX4_readNumber 10 = .ok (.iconst (-1), 1) := by decide +kernel
theorem dX4_readNumber_11 : decode cX4_readNumber 11 = .ok (.ireturn, 1) := by decide +kernel
theorem dX4_readNumber_12 : decode cX4_readNumber 12 = .ok (.aload_n 0, 1) := by decide +kernel
theorem dX4_readNumber_13 : decode cX4_readNumber 13 = .ok (.getfield 19, 3) := by decide +kernel
theorem dX4_readNumber_16 : decode cX4_readNumber 16 = .ok (.istore_n 3, 1) := by decide +kernel
theorem dX4_readNumber_17 : decode cX4_readNumber 17 = .ok (.iconst 0, 1) := by decide +kernel
theorem dX4_readNumber_18 : decode cX4_readNumber 18 = .ok (.istore 4, 2) := by decide +kernel
theorem dX4_readNumber_20 : decode cX4_readNumber 20 = .ok (.iconst 0, 1) := by decide +kernel
theorem dX4_readNumber_21 : decode cX4_readNumber 21 = .ok (.istore 5, 2) := by decide +kernel
theorem dX4_readNumber_23 : decode cX4_readNumber 23 = .ok (.iload 5, 2) := by decide +kernel
theorem dX4_readNumber_25 : decode cX4_readNumber 25 = .ok (.iconst 2, 1) := by decide +kernel
theorem dX4_readNumber_26 : decode cX4_readNumber 26 = .ok (.if_icmp .ge 44, 3) := by decide +kernel
theorem dX4_readNumber_29 : decode cX4_readNumber 29 = .ok (.aload_n 0, 1) := by decide +kernel
theorem dX4_readNumber_30 : decode cX4_readNumber 30 = .ok (.invokevirtual 64, 3) := by decide +kernel
theorem dX4_readNumber_33 : decode cX4_readNumber 33 = .ok (.invokestatic 67, 3) := by decide +kernel
theorem dX4_readNumber_36 : decode cX4_readNumber 36 = .ok (.ifCond .eq 34, 3) := by decide +kernel
theorem dX4_readNumber_39 : decode cX4_readNumber 39 = .ok (.bipush 10, 2) := by decide +kernel
theorem dX4_readNumber_41 : decode cX4_readNumber 41 = .ok (.iload 4, 2) := by decide +kernel
theorem dX4_readNumber_43 : decode cX4_readNumber 43 = .ok (.imul, 1) := by decide +kernel
theorem dX4_readNumber_44 : decode cX4_readNumber 44 = .ok (.aload_n 0, 1) := by decide +kernel
theorem dX4_readNumber_45 : decode cX4_readNumber 45 = .ok (.invokevirtual 64, 3) := by decide +kernel
theorem dX4_readNumber_48 : decode cX4_readNumber 48 = .ok (.bipush 48, 2) := by decide +kernel
theorem dX4_readNumber_50 : decode cX4_readNumber 50 = .ok (.isub, 1) := by decide +kernel
theorem dX4_readNumber_51 : decode cX4_readNumber 51 = .ok (.iadd, 1) := by decide +kernel
theorem dX4_readNumber_52 : decode cX4_readNumber 52 = .ok (.istore 4, 2) := by decide +kernel
theorem dX4_readNumber_54 : decode cX4_readNumber 54 = .ok (.aload_n 0, 1) := by decide +kernel
theorem dX4_readNumber_55 : decode cX4_readNumber 55 = .ok (.dup, 1) := by decide +kernel
theorem dX4_readNumber_56 : decode cX4_readNumber 56 = .ok (.getfield 19, 3) := by decide +kernel
theorem dX4_readNumber_59 : decode cX4_readNumber 59 = .ok (.iconst 1, 1) := by decide +kernel
theorem dX4_readNumber_60 : decode cX4_readNumber 60 = .ok (.iadd, 1) := by decide +kernel
theorem dX4_readNumber_61 : decode cX4_readNumber 61 = .ok (.putfield 19, 3) := by decide +kernel
theorem dX4_readNumber_64 : decode cX4_readNumber 64 = .ok (.iinc 5 1, 3) := by decide +kernel
theorem dX4_readNumber_67 : decode cX4_readNumber 67 = .ok (.goto (-44), 3) := by decide +kernel
theorem dX4_readNumber_70 : decode cX4_readNumber 70 = .ok (.iload 4, 2) := by decide +kernel
theorem dX4_readNumber_72 : decode cX4_readNumber 72 = .ok (.iload_n 1, 1) := by decide +kernel
theorem dX4_readNumber_73 : decode cX4_readNumber 73 = .ok (.if_icmp .lt 9, 3) := by decide +kernel
theorem dX4_readNumber_76 : decode cX4_readNumber 76 = .ok (.iload 4, 2) := by decide +kernel
theorem dX4_readNumber_78 : decode cX4_readNumber 78 = .ok (.iload_n 2, 1) := by decide +kernel
theorem dX4_readNumber_79 : decode cX4_readNumber 79 = .ok (.if_icmp .le 10, 3) := by decide +kernel
theorem dX4_readNumber_82 : decode cX4_readNumber 82 = .ok (.aload_n 0, 1) := by decide +kernel
theorem dX4_readNumber_83 : decode cX4_readNumber 83 = .ok (.iload_n 3, 1) := by decide +kernel
theorem dX4_readNumber_84 : decode cX4_readNumber 84 = .ok (.putfield 19, 3) := by decide +kernel
theorem dX4_readNumber_87 : decode cX4_readNumber 87 = .ok (.iconst (-1), 1) := by decide +kernel
theorem dX4_readNumber_88 : decode cX4_readNumber 88 = .ok (.ireturn, 1) := by decide +kernel
theorem dX4_readNumber_89 : decode cX4_readNumber 89 = .ok (.iload 4, 2) := by decide +kernel
theorem dX4_readNumber_91 : decode cX4_readNumber 91 = .ok (.ireturn, 1) := by decide +kernel
set_option maxRecDepth 20000 in
theorem ggX4_readManOf_X4_nextLetter : GoodIn wsX4_readManOf wsX4_nextLetter := goodIn_r _ [6, 1, 7, 8, 9, 10, 11, 5, 12, 22, 23, 24] (by decide +kernel) (by decide +kernel)
set_option maxRecDepth 20000 in
theorem gX4_readManOf_X4_nextLetter : GoodIn wsX4_readManOf (wsV RX4 33 RX4 yX4_nextLetter wsX4_nextLetter) := goodIn_app (goodIn_of _ (by decide +kernel)) ggX4_readManOf_X4_nextLetter
set_option maxRecDepth 20000 in
theorem ggX4_readManOf_X4_isDigit : GoodIn wsX4_readManOf wsX4_isDigit := goodIn_r _ [15] (by decide +kernel) (by decide +kernel)
set_option maxRecDepth 20000 in
theorem gX4_readManOf_X4_isDigit : GoodIn wsX4_readManOf (va_wsS RX4 67 yX4_isDigit wsX4_isDigit) := goodIn_app (goodIn_of _ (by decide +kernel)) ggX4_readManOf_X4_isDigit
set_option maxRecDepth 20000 in
theorem ggX4_readManOf_X1_hasMan : GoodIn wsX4_readManOf wsX1_hasMan := goodIn_r _ [20, 21, 25, 26, 27, 28, 29, 30, 31, 32, 33, 34] (by decide +kernel) (by decide +kernel)
set_option maxRecDepth 20000 in
theorem gX4_readManOf_X1_hasMan : GoodIn wsX4_readManOf (wsV RX4 70 RX1 yX1_hasMan wsX1_hasMan) := goodIn_app (goodIn_of _ (by decide +kernel)) ggX4_readManOf_X1_hasMan
theorem dX4_readManOf_0 : decode cX4_readManOf 0 = .ok (.aload_n 0, 1) := by decide +kernel
theorem dX4_readManOf_1 : decode cX4_readManOf 1 = .ok (.invokevirtual 33, 3) := by decide +kernel
theorem dX4_readManOf_4 : decode cX4_readManOf 4 = .ok (.istore_n 2, 1) := by decide +kernel
theorem dX4_readManOf_5 : decode cX4_readManOf 5 = .ok (.iload_n 2, 1) := by decide +kernel
theorem dX4_readManOf_6 : decode cX4_readManOf 6 = .ok (.invokestatic 67, 3) := by decide +kernel
theorem dX4_readManOf_9 : decode cX4_readManOf 9 = .ok (.ifCond .eq 14, 3) := by decide +kernel
theorem dX4_readManOf_12 : decode cX4_readManOf 12 = .ok (.aload_n 1, 1) := by decide +kernel
theorem dX4_readManOf_13 : decode cX4_readManOf 13 = .ok (.iload_n 2, 1) := by decide +kernel
theorem dX4_readManOf_14 : decode cX4_readManOf 14 = .ok (.bipush 48, 2) := by decide +kernel
theorem dX4_readManOf_16 : decode cX4_readManOf 16 = .ok (.isub, 1) := by decide +kernel
theorem dX4_readManOf_17 : decode cX4_readManOf 17 = .ok (.invokevirtual 70, 3) := by decide +kernel
theorem dX4_readManOf_20 : decode cX4_readManOf 20 = .ok (.ifCond .ne 5, 3) := by decide +kernel
theorem dX4_readManOf_23 : decode cX4_readManOf 23 = .ok (.iconst (-1), 1) := by decide +kernel
theorem dX4_readManOf_24 : decode cX4_readManOf 24 = .ok (.ireturn, 1) := by decide +kernel
theorem dX4_readManOf_25 : decode cX4_readManOf 25 = .ok (.aload_n 0, 1) := by decide +kernel
theorem dX4_readManOf_26 : decode cX4_readManOf 26 = .ok (.dup, 1) := by decide +kernel
theorem dX4_readManOf_27 : decode cX4_readManOf 27 = .ok (.getfield 19, 3) := by decide +kernel
theorem dX4_readManOf_30 : decode cX4_readManOf 30 = .ok (.iconst 1, 1) := by decide +kernel
theorem dX4_readManOf_31 : decode cX4_readManOf 31 = .ok (.iadd, 1) := by decide +kernel
theorem dX4_readManOf_32 : decode cX4_readManOf 32 = .ok (.putfield 19, 3) := by decide +kernel
theorem dX4_readManOf_35 : decode cX4_readManOf 35 = .ok (.iload_n 2, 1) := by decide +kernel
theorem dX4_readManOf_36 : decode cX4_readManOf 36 = .ok (.bipush 48, 2) := by decide +kernel
theorem dX4_readManOf_38 : decode cX4_readManOf 38 = .ok (.isub, 1) := by decide +kernel
theorem dX4_readManOf_39 : decode cX4_readManOf 39 = .ok (.ireturn, 1) := by decide +kernel
theorem dX4_isDigit_0 : decode cX4_isDigit 0 = .ok (.iload_n 0, 1) := by decide +kernel
theorem dX4_isDigit_1 : decode cX4_isDigit 1 = .ok (.bipush 48, 2) := by decide +kernel
theorem dX4_isDigit_3 : decode cX4_isDigit 3 = .ok (.if_icmp .lt 13, 3) := by decide +kernel
theorem dX4_isDigit_6 : decode cX4_isDigit 6 = .ok (.iload_n 0, 1) := by decide +kernel
theorem dX4_isDigit_7 : decode cX4_isDigit 7 = .ok (.bipush 57, 2) := by decide +kernel
theorem dX4_isDigit_9 : decode cX4_isDigit 9 = .ok (.if_icmp .gt 7, 3) := by decide +kernel
theorem dX4_isDigit_12 : decode cX4_isDigit 12 = .ok (.iconst 1, 1) := by decide +kernel
theorem dX4_isDigit_13 : decode cX4_isDigit 13 = .ok (.goto 4, 3) := by decide +kernel
theorem dX4_isDigit_16 : decode cX4_isDigit 16 = .ok (.iconst 0, 1) := by decide +kernel
theorem dX4_isDigit_17 : decode cX4_isDigit 17 = .ok (.ireturn, 1) := by decide +kernel
def fX2_forget    : Option Int32 := some 0
theorem in_X2_forget_X2 : ∀ w ∈ wsX20, w ∈ wsX2_forget := by decide +kernel
set_option maxHeartbeats 4000000 in
set_option maxRecDepth 100000 in
theorem ct_X2_forget {l : Launch} {D : va_G} {g : Nat → ClassId} {qa : Nat → Nat} {E0 : Nat → va_E} {b : Nat} {kn_p : Int32} {nx_p : Int32} {ke_p : Nat → Nat → Int32} (hb_p : b + 10 ≤ 74) (hG_p : Pa g qa E0 b kn_p nx_p ke_p) {R : Int32} (hf : fX2_forget = some R) : MV l yX2_forget wsX2_forget 0 D g qa E0 [.ref (qa b)] (fun E => Pa g qa E b R nx_p ke_p ∧ ∀ j, (j < b ∨ b + 10 ≤ j) → E j = E0 j) := by
  refine MV.mk (by decide) rfl (Nat.le_of_ble_eq_true rfl) ?_
  intro p e s m args below meth c ls Q X hret hP hS hl
  have hl : lv_has ls 1 [(0, .ref (qa b))] := hl
  have hfr : ∀ j, (j < b ∨ b + 10 ≤ j) → E0 j = E0 j := fun _ _ => rfl
  rw [fX2_forget] at hf
  refine lv_aload_n X.1 X.2.1 dX2_forget_0 rfl (lv_at hl 0 rfl) ?_
  refine lv_iconst (v := 0) X.1 X.2.1 dX2_forget_1 (by decide) ?_
  refine x_put (ty := .int) X hP hS hG_p.1 (by omega) rfl in_X2_forget_X2 tyX2 tyX2_ok nmX2 1 (by decide) (by decide +kernel) rfl rfl (by decide +kernel) rfl rfl (Nat.le_of_ble_eq_true rfl) dX2_forget_2 (fun E H locs h1 hk hP hS => ?_)
  have hG_p := Pa_set_0 hG_p h1 hk
  have hfr : ∀ j, (j < b ∨ b + 10 ≤ j) → E j = E0 j := fun j o0 => (hk j (by omega)).trans (hfr j o0)
  obtain rfl := Option.some.inj hf
  exact hret _ _ _ _ _ dX2_forget_5 (⟨hG_p, hfr⟩) hP hS
def fX2_giveBack   (kn_p : Int32) (nx_p : Int32) (ke_p : Nat → Nat → Int32) (day_n : Int32) (drw_n : Int32) (st_n : Nat → Int32) (we_n : Nat → Int32) (wr_n : Nat → Int32) : Option (Int32 × Int32 × Int32 × Int32 × Int32 × (Nat → Int32) × (Nat → Int32) × (Nat → Int32)) := if kn_p = 0 then (some (0, kn_p, nx_p, day_n, drw_n, st_n, we_n, wr_n)) else (gin (((nx_p + 8) - 1) - ((nx_p + 8) - 1) / 8 * 8) 8 (gcp 0 0 5 19 5 (gcp 5 0 6 19 6 (gcp 11 0 6 19 6 (gin 17 19 (gin 18 19 (some (1, kn_p - 1, ((nx_p + 8) - 1) - ((nx_p + 8) - 1) / 8 * 8, ke_p (Int32.toNatClampNeg (((nx_p + 8) - 1) - ((nx_p + 8) - 1) / 8 * 8)) (Int32.toNatClampNeg 17), ke_p (Int32.toNatClampNeg (((nx_p + 8) - 1) - ((nx_p + 8) - 1) / 8 * 8)) (Int32.toNatClampNeg 18), va_cpy (ke_p (Int32.toNatClampNeg (((nx_p + 8) - 1) - ((nx_p + 8) - 1) / 8 * 8))) st_n (Int32.toNatClampNeg 0) (Int32.toNatClampNeg 0) (Int32.toNatClampNeg 5), va_cpy (ke_p (Int32.toNatClampNeg (((nx_p + 8) - 1) - ((nx_p + 8) - 1) / 8 * 8))) we_n (Int32.toNatClampNeg 5) (Int32.toNatClampNeg 0) (Int32.toNatClampNeg 6), va_cpy (ke_p (Int32.toNatClampNeg (((nx_p + 8) - 1) - ((nx_p + 8) - 1) / 8 * 8))) wr_n (Int32.toNatClampNeg 11) (Int32.toNatClampNeg 0) (Int32.toNatClampNeg 6)))))))))
theorem in_X2_giveBack_X1 : ∀ w ∈ wsX10, w ∈ wsX2_giveBack := by decide +kernel
theorem in_X2_giveBack_X2 : ∀ w ∈ wsX20, w ∈ wsX2_giveBack := by decide +kernel
set_option maxHeartbeats 4000000 in
set_option maxRecDepth 100000 in
theorem ct_X2_giveBack {l : Launch} {D : va_G} {g : Nat → ClassId} {qa : Nat → Nat} {E0 : Nat → va_E} {kn_p : Int32} {nx_p : Int32} {ke_p : Nat → Nat → Int32} {men_n : Int32} {md_n : Int32} {day_n : Int32} {drw_n : Int32} {bu_n : Nat → Int32} {st_n : Nat → Int32} {ki_n : Nat → Int32} {we_n : Nat → Int32} {wo_n : Nat → Int32} {wr_n : Nat → Int32} (hG_p : Pa g qa E0 8 kn_p nx_p ke_p) (hG_n : Mu g qa E0 1 men_n md_n day_n drw_n bu_n st_n ki_n we_n wo_n wr_n) {R : (Int32 × Int32 × Int32 × Int32 × Int32 × (Nat → Int32) × (Nat → Int32) × (Nat → Int32))} (hf : fX2_giveBack kn_p nx_p ke_p day_n drw_n st_n we_n wr_n = some R) : MI l yX2_giveBack wsX2_giveBack 1 D g qa E0 [.ref (qa 8), .ref (qa 1)] R.1 (fun E => Pa g qa E 8 R.2.1 R.2.2.1 ke_p ∧ Mu g qa E 1 men_n md_n R.2.2.2.1 R.2.2.2.2.1 bu_n R.2.2.2.2.2.1 ki_n R.2.2.2.2.2.2.1 wo_n R.2.2.2.2.2.2.2 ∧ ∀ j, (j < 8 ∨ 18 ≤ j) → (j < 1 ∨ 8 ≤ j) → E j = E0 j) := by
  refine MI.mk (by decide) rfl (Nat.le_of_ble_eq_true rfl) ?_
  intro p e s m args below meth c ls Q X hret hP hS hl
  have hl : lv_has ls 3 [(0, .ref (qa 8)), (1, .ref (qa 1))] := hl
  have hfr : ∀ j, (j < 8 ∨ 18 ≤ j) → (j < 1 ∨ 8 ≤ j) → E0 j = E0 j := fun _ _ _ => rfl
  rw [fX2_giveBack] at hf
  refine lv_aload_n X.1 X.2.1 dX2_giveBack_0 rfl (lv_at hl 0 rfl) ?_
  refine x_get X hP hG_p.1 (by omega) rfl in_X2_giveBack_X2 1 (by decide) (by decide +kernel) rfl rfl dX2_giveBack_1 ?_
  refine lv_if_ne (tgt := 9) X.1 X.2.1 dX2_giveBack_4 (by decide) (fun c1 => ?_) (fun c1 => ?_)
  · have hf := ifn hf c1
    refine lv_aload_n X.1 X.2.1 dX2_giveBack_9 rfl (lv_at hl 0 rfl) ?_
    refine lv_dup X.1 X.2.1 dX2_giveBack_10 rfl ?_
    refine x_get X hP hG_p.1 (by omega) rfl in_X2_giveBack_X2 1 (by decide) (by decide +kernel) rfl rfl dX2_giveBack_11 ?_
    refine lv_iconst (v := 1) X.1 X.2.1 dX2_giveBack_14 (by decide) ?_
    refine lv_isub X.1 X.2.1 dX2_giveBack_15 ?_
    refine x_put (ty := .int) X hP hS hG_p.1 (by omega) rfl in_X2_giveBack_X2 tyX2 tyX2_ok nmX2 1 (by decide) (by decide +kernel) rfl rfl (by decide +kernel) rfl rfl (Nat.le_of_ble_eq_true rfl) dX2_giveBack_16 (fun E H locs h1 hk hP hS => ?_)
    have hG_p := Pa_set_0 hG_p h1 hk
    have hG_n := Mu_kept hG_n (fun j h8 h9 => hk j (by omega))
    have hfr : ∀ j, (j < 8 ∨ 18 ≤ j) → (j < 1 ∨ 8 ≤ j) → E j = E0 j := fun j o0 o1 => (hk j (by omega)).trans (hfr j o0 o1)
    refine lv_aload_n X.1 X.2.1 dX2_giveBack_19 rfl (lv_at hl 0 rfl) ?_
    refine lv_aload_n X.1 X.2.1 dX2_giveBack_20 rfl (lv_at hl 0 rfl) ?_
    refine x_get X hP hG_p.1 (by omega) rfl in_X2_giveBack_X2 2 (by decide) (by decide +kernel) rfl rfl dX2_giveBack_21 ?_
    refine lv_bipush (v := 8) X.1 X.2.1 dX2_giveBack_24 (by decide) ?_
    refine lv_iadd X.1 X.2.1 dX2_giveBack_26 ?_
    refine lv_iconst (v := 1) X.1 X.2.1 dX2_giveBack_27 (by decide) ?_
    refine lv_isub X.1 X.2.1 dX2_giveBack_28 ?_
    refine lv_bipush (v := 8) X.1 X.2.1 dX2_giveBack_29 (by decide) ?_
    refine lv_irem X.1 X.2.1 dX2_giveBack_31 (by decide) ?_
    refine x_put (ty := .int) X hP hS hG_p.1 (by omega) rfl in_X2_giveBack_X2 tyX2 tyX2_ok nmX2 2 (by decide) (by decide +kernel) rfl rfl (by decide +kernel) rfl rfl (Nat.le_of_ble_eq_true rfl) dX2_giveBack_32 (fun E H locs h1 hk hP hS => ?_)
    have hG_p := Pa_set_0 hG_p h1 hk
    have hG_n := Mu_kept hG_n (fun j h8 h9 => hk j (by omega))
    have hfr : ∀ j, (j < 8 ∨ 18 ≤ j) → (j < 1 ∨ 8 ≤ j) → E j = E0 j := fun j o0 o1 => (hk j (by omega)).trans (hfr j o0 o1)
    refine lv_aload_n X.1 X.2.1 dX2_giveBack_35 rfl (lv_at hl 0 rfl) ?_
    refine x_get X hP hG_p.1 (by omega) rfl in_X2_giveBack_X2 0 (by decide) (by decide +kernel) rfl rfl dX2_giveBack_36 ?_
    refine lv_aload_n X.1 X.2.1 dX2_giveBack_39 rfl (lv_at hl 0 rfl) ?_
    refine x_get X hP hG_p.1 (by omega) rfl in_X2_giveBack_X2 2 (by decide) (by decide +kernel) rfl rfl dX2_giveBack_40 ?_
    obtain ⟨hi2, hf⟩ := gin_of hf
    have hj3 := in_lt hi2
    refine x_aald X hP 3 rfl rfl hG_p.2.1 (by omega) hi2 dX2_giveBack_43 ?_
    refine lv_astore_n (lv' := [(2, .ref (qa (8 + 2 + (Int32.toNatClampNeg (((nx_p + 8) - 1) - ((nx_p + 8) - 1) / 8 * 8))))), (0, .ref (qa 8)), (1, .ref (qa 1))]) X.1 X.2.1 dX2_giveBack_44 rfl hl (by decide) rfl (fun ls hl => ?_)
    refine lv_aload_n X.1 X.2.1 dX2_giveBack_45 rfl (lv_at hl 0 rfl) ?_
    refine lv_iconst (v := 0) X.1 X.2.1 dX2_giveBack_46 (by decide) ?_
    refine lv_aload_n X.1 X.2.1 dX2_giveBack_47 rfl (lv_at hl 2 rfl) ?_
    refine x_get X hP hG_n.1 (by omega) rfl in_X2_giveBack_X1 2 (by decide) (by decide +kernel) rfl rfl dX2_giveBack_48 ?_
    refine lv_iconst (v := 0) X.1 X.2.1 dX2_giveBack_51 (by decide) ?_
    refine lv_iconst (v := 5) X.1 X.2.1 dX2_giveBack_52 (by decide) ?_
    obtain ⟨hy4, hf⟩ := gcp_of hf
    refine x_copyi X hP hS (hG_p.2.2 _ hj3) (by omega) hG_n.2.2.1 (by omega) (index := 29) (by decide +kernel) (by decide +kernel) (by decide +kernel) (by decide +kernel) hl.1 hy4.1 hy4.2.1 hy4.2.2.1 hy4.2.2.2.1 hy4.2.2.2.2 (by decide) (Nat.le_of_ble_eq_true rfl) dX2_giveBack_53 (fun E H locs h1 hk hP hS => ?_)
    have hG_n := Mu_set_2 hG_n h1 hk
    have hG_p := Pa_kept hG_p (fun j h8 h9 => hk j (by omega))
    have hfr : ∀ j, (j < 8 ∨ 18 ≤ j) → (j < 1 ∨ 8 ≤ j) → E j = E0 j := fun j o0 o1 => (hk j (by omega)).trans (hfr j o0 o1)
    refine lv_aload_n X.1 X.2.1 dX2_giveBack_56 rfl (lv_at hl 0 rfl) ?_
    refine lv_iconst (v := 5) X.1 X.2.1 dX2_giveBack_57 (by decide) ?_
    refine lv_aload_n X.1 X.2.1 dX2_giveBack_58 rfl (lv_at hl 2 rfl) ?_
    refine x_get X hP hG_n.1 (by omega) rfl in_X2_giveBack_X1 5 (by decide) (by decide +kernel) rfl rfl dX2_giveBack_59 ?_
    refine lv_iconst (v := 0) X.1 X.2.1 dX2_giveBack_62 (by decide) ?_
    refine lv_bipush (v := 6) X.1 X.2.1 dX2_giveBack_63 (by decide) ?_
    obtain ⟨hy5, hf⟩ := gcp_of hf
    refine x_copyi X hP hS (hG_p.2.2 _ hj3) (by omega) hG_n.2.2.2.2.1 (by omega) (index := 29) (by decide +kernel) (by decide +kernel) (by decide +kernel) (by decide +kernel) hl.1 hy5.1 hy5.2.1 hy5.2.2.1 hy5.2.2.2.1 hy5.2.2.2.2 (by decide) (Nat.le_of_ble_eq_true rfl) dX2_giveBack_65 (fun E H locs h1 hk hP hS => ?_)
    have hG_n := Mu_set_4 hG_n h1 hk
    have hG_p := Pa_kept hG_p (fun j h8 h9 => hk j (by omega))
    have hfr : ∀ j, (j < 8 ∨ 18 ≤ j) → (j < 1 ∨ 8 ≤ j) → E j = E0 j := fun j o0 o1 => (hk j (by omega)).trans (hfr j o0 o1)
    refine lv_aload_n X.1 X.2.1 dX2_giveBack_68 rfl (lv_at hl 0 rfl) ?_
    refine lv_bipush (v := 11) X.1 X.2.1 dX2_giveBack_69 (by decide) ?_
    refine lv_aload_n X.1 X.2.1 dX2_giveBack_71 rfl (lv_at hl 2 rfl) ?_
    refine x_get X hP hG_n.1 (by omega) rfl in_X2_giveBack_X1 7 (by decide) (by decide +kernel) rfl rfl dX2_giveBack_72 ?_
    refine lv_iconst (v := 0) X.1 X.2.1 dX2_giveBack_75 (by decide) ?_
    refine lv_bipush (v := 6) X.1 X.2.1 dX2_giveBack_76 (by decide) ?_
    obtain ⟨hy6, hf⟩ := gcp_of hf
    refine x_copyi X hP hS (hG_p.2.2 _ hj3) (by omega) hG_n.2.2.2.2.2.2 (by omega) (index := 29) (by decide +kernel) (by decide +kernel) (by decide +kernel) (by decide +kernel) hl.1 hy6.1 hy6.2.1 hy6.2.2.1 hy6.2.2.2.1 hy6.2.2.2.2 (by decide) (Nat.le_of_ble_eq_true rfl) dX2_giveBack_78 (fun E H locs h1 hk hP hS => ?_)
    have hG_n := Mu_set_6 hG_n h1 hk
    have hG_p := Pa_kept hG_p (fun j h8 h9 => hk j (by omega))
    have hfr : ∀ j, (j < 8 ∨ 18 ≤ j) → (j < 1 ∨ 8 ≤ j) → E j = E0 j := fun j o0 o1 => (hk j (by omega)).trans (hfr j o0 o1)
    refine lv_aload_n X.1 X.2.1 dX2_giveBack_81 rfl (lv_at hl 2 rfl) ?_
    refine lv_aload_n X.1 X.2.1 dX2_giveBack_82 rfl (lv_at hl 0 rfl) ?_
    refine lv_bipush (v := 17) X.1 X.2.1 dX2_giveBack_83 (by decide) ?_
    obtain ⟨hi7, hf⟩ := gin_of hf
    refine x_iald X hP (hG_p.2.2 _ hj3) (by omega) hi7 dX2_giveBack_85 ?_
    refine x_put (ty := .int) X hP hS hG_n.1 (by omega) rfl in_X2_giveBack_X1 tyX1 tyX1_ok nmX1 8 (by decide) (by decide +kernel) rfl rfl (by decide +kernel) rfl rfl (Nat.le_of_ble_eq_true rfl) dX2_giveBack_86 (fun E H locs h1 hk hP hS => ?_)
    have hG_n := Mu_set_0 hG_n h1 hk
    have hG_p := Pa_kept hG_p (fun j h8 h9 => hk j (by omega))
    have hfr : ∀ j, (j < 8 ∨ 18 ≤ j) → (j < 1 ∨ 8 ≤ j) → E j = E0 j := fun j o0 o1 => (hk j (by omega)).trans (hfr j o0 o1)
    refine lv_aload_n X.1 X.2.1 dX2_giveBack_89 rfl (lv_at hl 2 rfl) ?_
    refine lv_aload_n X.1 X.2.1 dX2_giveBack_90 rfl (lv_at hl 0 rfl) ?_
    refine lv_bipush (v := 18) X.1 X.2.1 dX2_giveBack_91 (by decide) ?_
    obtain ⟨hi8, hf⟩ := gin_of hf
    refine x_iald X hP (hG_p.2.2 _ hj3) (by omega) hi8 dX2_giveBack_93 ?_
    refine x_put (ty := .int) X hP hS hG_n.1 (by omega) rfl in_X2_giveBack_X1 tyX1 tyX1_ok nmX1 9 (by decide) (by decide +kernel) rfl rfl (by decide +kernel) rfl rfl (Nat.le_of_ble_eq_true rfl) dX2_giveBack_94 (fun E H locs h1 hk hP hS => ?_)
    have hG_n := Mu_set_0 hG_n h1 hk
    have hG_p := Pa_kept hG_p (fun j h8 h9 => hk j (by omega))
    have hfr : ∀ j, (j < 8 ∨ 18 ≤ j) → (j < 1 ∨ 8 ≤ j) → E j = E0 j := fun j o0 o1 => (hk j (by omega)).trans (hfr j o0 o1)
    refine lv_iconst (v := 1) X.1 X.2.1 dX2_giveBack_97 (by decide) ?_
    obtain rfl := Option.some.inj hf
    exact hret _ _ _ _ _ _ dX2_giveBack_98 rfl rfl (⟨hG_p, hG_n, hfr⟩) hP hS
  · have hf := ifp hf c1
    refine lv_iconst (v := 0) X.1 X.2.1 dX2_giveBack_7 (by decide) ?_
    obtain rfl := Option.some.inj hf
    exact hret _ _ _ _ _ _ dX2_giveBack_8 rfl rfl (⟨hG_p, hG_n, hfr⟩) hP hS
def fX2_keep   (kn_p : Int32) (nx_p : Int32) (ke_p : Nat → Nat → Int32) (day_n : Int32) (drw_n : Int32) (st_n : Nat → Int32) (we_n : Nat → Int32) (wr_n : Nat → Int32) : Option (Int32 × Int32 × (Nat → Nat → Int32)) := gin nx_p 8 (gcp 0 0 5 5 19 (gcp 0 5 6 6 19 (gcp 0 11 6 6 19 (gin 17 19 (gin 18 19 (some ((if (kn_p + 1) < 8 then kn_p + 1 else 8), (nx_p + 1) - (nx_p + 1) / 8 * 8, va_up (va_up (va_up (va_up (va_up ke_p (Int32.toNatClampNeg nx_p) (va_cpy st_n (ke_p (Int32.toNatClampNeg nx_p)) (Int32.toNatClampNeg 0) (Int32.toNatClampNeg 0) (Int32.toNatClampNeg 5))) (Int32.toNatClampNeg nx_p) (va_cpy we_n ((va_up ke_p (Int32.toNatClampNeg nx_p) (va_cpy st_n (ke_p (Int32.toNatClampNeg nx_p)) (Int32.toNatClampNeg 0) (Int32.toNatClampNeg 0) (Int32.toNatClampNeg 5))) (Int32.toNatClampNeg nx_p)) (Int32.toNatClampNeg 0) (Int32.toNatClampNeg 5) (Int32.toNatClampNeg 6))) (Int32.toNatClampNeg nx_p) (va_cpy wr_n ((va_up (va_up ke_p (Int32.toNatClampNeg nx_p) (va_cpy st_n (ke_p (Int32.toNatClampNeg nx_p)) (Int32.toNatClampNeg 0) (Int32.toNatClampNeg 0) (Int32.toNatClampNeg 5))) (Int32.toNatClampNeg nx_p) (va_cpy we_n ((va_up ke_p (Int32.toNatClampNeg nx_p) (va_cpy st_n (ke_p (Int32.toNatClampNeg nx_p)) (Int32.toNatClampNeg 0) (Int32.toNatClampNeg 0) (Int32.toNatClampNeg 5))) (Int32.toNatClampNeg nx_p)) (Int32.toNatClampNeg 0) (Int32.toNatClampNeg 5) (Int32.toNatClampNeg 6))) (Int32.toNatClampNeg nx_p)) (Int32.toNatClampNeg 0) (Int32.toNatClampNeg 11) (Int32.toNatClampNeg 6))) (Int32.toNatClampNeg nx_p) (upd ((va_up (va_up (va_up ke_p (Int32.toNatClampNeg nx_p) (va_cpy st_n (ke_p (Int32.toNatClampNeg nx_p)) (Int32.toNatClampNeg 0) (Int32.toNatClampNeg 0) (Int32.toNatClampNeg 5))) (Int32.toNatClampNeg nx_p) (va_cpy we_n ((va_up ke_p (Int32.toNatClampNeg nx_p) (va_cpy st_n (ke_p (Int32.toNatClampNeg nx_p)) (Int32.toNatClampNeg 0) (Int32.toNatClampNeg 0) (Int32.toNatClampNeg 5))) (Int32.toNatClampNeg nx_p)) (Int32.toNatClampNeg 0) (Int32.toNatClampNeg 5) (Int32.toNatClampNeg 6))) (Int32.toNatClampNeg nx_p) (va_cpy wr_n ((va_up (va_up ke_p (Int32.toNatClampNeg nx_p) (va_cpy st_n (ke_p (Int32.toNatClampNeg nx_p)) (Int32.toNatClampNeg 0) (Int32.toNatClampNeg 0) (Int32.toNatClampNeg 5))) (Int32.toNatClampNeg nx_p) (va_cpy we_n ((va_up ke_p (Int32.toNatClampNeg nx_p) (va_cpy st_n (ke_p (Int32.toNatClampNeg nx_p)) (Int32.toNatClampNeg 0) (Int32.toNatClampNeg 0) (Int32.toNatClampNeg 5))) (Int32.toNatClampNeg nx_p)) (Int32.toNatClampNeg 0) (Int32.toNatClampNeg 5) (Int32.toNatClampNeg 6))) (Int32.toNatClampNeg nx_p)) (Int32.toNatClampNeg 0) (Int32.toNatClampNeg 11) (Int32.toNatClampNeg 6))) (Int32.toNatClampNeg nx_p)) (Int32.toNatClampNeg 17) day_n)) (Int32.toNatClampNeg nx_p) (upd ((va_up (va_up (va_up (va_up ke_p (Int32.toNatClampNeg nx_p) (va_cpy st_n (ke_p (Int32.toNatClampNeg nx_p)) (Int32.toNatClampNeg 0) (Int32.toNatClampNeg 0) (Int32.toNatClampNeg 5))) (Int32.toNatClampNeg nx_p) (va_cpy we_n ((va_up ke_p (Int32.toNatClampNeg nx_p) (va_cpy st_n (ke_p (Int32.toNatClampNeg nx_p)) (Int32.toNatClampNeg 0) (Int32.toNatClampNeg 0) (Int32.toNatClampNeg 5))) (Int32.toNatClampNeg nx_p)) (Int32.toNatClampNeg 0) (Int32.toNatClampNeg 5) (Int32.toNatClampNeg 6))) (Int32.toNatClampNeg nx_p) (va_cpy wr_n ((va_up (va_up ke_p (Int32.toNatClampNeg nx_p) (va_cpy st_n (ke_p (Int32.toNatClampNeg nx_p)) (Int32.toNatClampNeg 0) (Int32.toNatClampNeg 0) (Int32.toNatClampNeg 5))) (Int32.toNatClampNeg nx_p) (va_cpy we_n ((va_up ke_p (Int32.toNatClampNeg nx_p) (va_cpy st_n (ke_p (Int32.toNatClampNeg nx_p)) (Int32.toNatClampNeg 0) (Int32.toNatClampNeg 0) (Int32.toNatClampNeg 5))) (Int32.toNatClampNeg nx_p)) (Int32.toNatClampNeg 0) (Int32.toNatClampNeg 5) (Int32.toNatClampNeg 6))) (Int32.toNatClampNeg nx_p)) (Int32.toNatClampNeg 0) (Int32.toNatClampNeg 11) (Int32.toNatClampNeg 6))) (Int32.toNatClampNeg nx_p) (upd ((va_up (va_up (va_up ke_p (Int32.toNatClampNeg nx_p) (va_cpy st_n (ke_p (Int32.toNatClampNeg nx_p)) (Int32.toNatClampNeg 0) (Int32.toNatClampNeg 0) (Int32.toNatClampNeg 5))) (Int32.toNatClampNeg nx_p) (va_cpy we_n ((va_up ke_p (Int32.toNatClampNeg nx_p) (va_cpy st_n (ke_p (Int32.toNatClampNeg nx_p)) (Int32.toNatClampNeg 0) (Int32.toNatClampNeg 0) (Int32.toNatClampNeg 5))) (Int32.toNatClampNeg nx_p)) (Int32.toNatClampNeg 0) (Int32.toNatClampNeg 5) (Int32.toNatClampNeg 6))) (Int32.toNatClampNeg nx_p) (va_cpy wr_n ((va_up (va_up ke_p (Int32.toNatClampNeg nx_p) (va_cpy st_n (ke_p (Int32.toNatClampNeg nx_p)) (Int32.toNatClampNeg 0) (Int32.toNatClampNeg 0) (Int32.toNatClampNeg 5))) (Int32.toNatClampNeg nx_p) (va_cpy we_n ((va_up ke_p (Int32.toNatClampNeg nx_p) (va_cpy st_n (ke_p (Int32.toNatClampNeg nx_p)) (Int32.toNatClampNeg 0) (Int32.toNatClampNeg 0) (Int32.toNatClampNeg 5))) (Int32.toNatClampNeg nx_p)) (Int32.toNatClampNeg 0) (Int32.toNatClampNeg 5) (Int32.toNatClampNeg 6))) (Int32.toNatClampNeg nx_p)) (Int32.toNatClampNeg 0) (Int32.toNatClampNeg 11) (Int32.toNatClampNeg 6))) (Int32.toNatClampNeg nx_p)) (Int32.toNatClampNeg 17) day_n)) (Int32.toNatClampNeg nx_p)) (Int32.toNatClampNeg 18) drw_n))))))))
theorem in_X2_keep_X1 : ∀ w ∈ wsX10, w ∈ wsX2_keep := by decide +kernel
theorem in_X2_keep_X2 : ∀ w ∈ wsX20, w ∈ wsX2_keep := by decide +kernel
set_option maxHeartbeats 4000000 in
set_option maxRecDepth 100000 in
theorem ct_X2_keep {l : Launch} {D : va_G} {g : Nat → ClassId} {qa : Nat → Nat} {E0 : Nat → va_E} {kn_p : Int32} {nx_p : Int32} {ke_p : Nat → Nat → Int32} {men_n : Int32} {md_n : Int32} {day_n : Int32} {drw_n : Int32} {bu_n : Nat → Int32} {st_n : Nat → Int32} {ki_n : Nat → Int32} {we_n : Nat → Int32} {wo_n : Nat → Int32} {wr_n : Nat → Int32} (hG_p : Pa g qa E0 8 kn_p nx_p ke_p) (hG_n : Mu g qa E0 1 men_n md_n day_n drw_n bu_n st_n ki_n we_n wo_n wr_n) {R : (Int32 × Int32 × (Nat → Nat → Int32))} (hf : fX2_keep kn_p nx_p ke_p day_n drw_n st_n we_n wr_n = some R) : MV l yX2_keep wsX2_keep 1 D g qa E0 [.ref (qa 8), .ref (qa 1)] (fun E => Pa g qa E 8 R.1 R.2.1 R.2.2 ∧ ∀ j, (j < 8 ∨ 18 ≤ j) → E j = E0 j) := by
  refine MV.mk (by decide) rfl (Nat.le_of_ble_eq_true rfl) ?_
  intro p e s m args below meth c ls Q X hret hP hS hl
  have hl : lv_has ls 3 [(0, .ref (qa 8)), (1, .ref (qa 1))] := hl
  have hfr : ∀ j, (j < 8 ∨ 18 ≤ j) → E0 j = E0 j := fun _ _ => rfl
  rw [fX2_keep] at hf
  refine lv_aload_n X.1 X.2.1 dX2_keep_0 rfl (lv_at hl 0 rfl) ?_
  refine x_get X hP hG_p.1 (by omega) rfl in_X2_keep_X2 0 (by decide) (by decide +kernel) rfl rfl dX2_keep_1 ?_
  refine lv_aload_n X.1 X.2.1 dX2_keep_4 rfl (lv_at hl 0 rfl) ?_
  refine x_get X hP hG_p.1 (by omega) rfl in_X2_keep_X2 2 (by decide) (by decide +kernel) rfl rfl dX2_keep_5 ?_
  obtain ⟨hi1, hf⟩ := gin_of hf
  have hj2 := in_lt hi1
  refine x_aald X hP 3 rfl rfl hG_p.2.1 (by omega) hi1 dX2_keep_8 ?_
  refine lv_astore_n (lv' := [(2, .ref (qa (8 + 2 + (Int32.toNatClampNeg nx_p)))), (0, .ref (qa 8)), (1, .ref (qa 1))]) X.1 X.2.1 dX2_keep_9 rfl hl (by decide) rfl (fun ls hl => ?_)
  refine lv_aload_n X.1 X.2.1 dX2_keep_10 rfl (lv_at hl 2 rfl) ?_
  refine x_get X hP hG_n.1 (by omega) rfl in_X2_keep_X1 2 (by decide) (by decide +kernel) rfl rfl dX2_keep_11 ?_
  refine lv_iconst (v := 0) X.1 X.2.1 dX2_keep_14 (by decide) ?_
  refine lv_aload_n X.1 X.2.1 dX2_keep_15 rfl (lv_at hl 0 rfl) ?_
  refine lv_iconst (v := 0) X.1 X.2.1 dX2_keep_16 (by decide) ?_
  refine lv_iconst (v := 5) X.1 X.2.1 dX2_keep_17 (by decide) ?_
  obtain ⟨hy3, hf⟩ := gcp_of hf
  refine x_copyi X hP hS hG_n.2.2.1 (by omega) (hG_p.2.2 _ hj2) (by omega) (index := 29) (by decide +kernel) (by decide +kernel) (by decide +kernel) (by decide +kernel) hl.1 hy3.1 hy3.2.1 hy3.2.2.1 hy3.2.2.2.1 hy3.2.2.2.2 (by decide) (Nat.le_of_ble_eq_true rfl) dX2_keep_18 (fun E H locs h1 hk hP hS => ?_)
  have hG_p := Pa_set_2 hG_p hj2 h1 hk
  have hG_n := Mu_kept hG_n (fun j h8 h9 => hk j (by omega))
  have hfr : ∀ j, (j < 8 ∨ 18 ≤ j) → E j = E0 j := fun j o0 => (hk j (by omega)).trans (hfr j o0)
  refine lv_aload_n X.1 X.2.1 dX2_keep_21 rfl (lv_at hl 2 rfl) ?_
  refine x_get X hP hG_n.1 (by omega) rfl in_X2_keep_X1 5 (by decide) (by decide +kernel) rfl rfl dX2_keep_22 ?_
  refine lv_iconst (v := 0) X.1 X.2.1 dX2_keep_25 (by decide) ?_
  refine lv_aload_n X.1 X.2.1 dX2_keep_26 rfl (lv_at hl 0 rfl) ?_
  refine lv_iconst (v := 5) X.1 X.2.1 dX2_keep_27 (by decide) ?_
  refine lv_bipush (v := 6) X.1 X.2.1 dX2_keep_28 (by decide) ?_
  obtain ⟨hy4, hf⟩ := gcp_of hf
  refine x_copyi X hP hS hG_n.2.2.2.2.1 (by omega) (hG_p.2.2 _ hj2) (by omega) (index := 29) (by decide +kernel) (by decide +kernel) (by decide +kernel) (by decide +kernel) hl.1 hy4.1 hy4.2.1 hy4.2.2.1 hy4.2.2.2.1 hy4.2.2.2.2 (by decide) (Nat.le_of_ble_eq_true rfl) dX2_keep_30 (fun E H locs h1 hk hP hS => ?_)
  have hG_p := Pa_set_2 hG_p hj2 h1 hk
  have hG_n := Mu_kept hG_n (fun j h8 h9 => hk j (by omega))
  have hfr : ∀ j, (j < 8 ∨ 18 ≤ j) → E j = E0 j := fun j o0 => (hk j (by omega)).trans (hfr j o0)
  refine lv_aload_n X.1 X.2.1 dX2_keep_33 rfl (lv_at hl 2 rfl) ?_
  refine x_get X hP hG_n.1 (by omega) rfl in_X2_keep_X1 7 (by decide) (by decide +kernel) rfl rfl dX2_keep_34 ?_
  refine lv_iconst (v := 0) X.1 X.2.1 dX2_keep_37 (by decide) ?_
  refine lv_aload_n X.1 X.2.1 dX2_keep_38 rfl (lv_at hl 0 rfl) ?_
  refine lv_bipush (v := 11) X.1 X.2.1 dX2_keep_39 (by decide) ?_
  refine lv_bipush (v := 6) X.1 X.2.1 dX2_keep_41 (by decide) ?_
  obtain ⟨hy5, hf⟩ := gcp_of hf
  refine x_copyi X hP hS hG_n.2.2.2.2.2.2 (by omega) (hG_p.2.2 _ hj2) (by omega) (index := 29) (by decide +kernel) (by decide +kernel) (by decide +kernel) (by decide +kernel) hl.1 hy5.1 hy5.2.1 hy5.2.2.1 hy5.2.2.2.1 hy5.2.2.2.2 (by decide) (Nat.le_of_ble_eq_true rfl) dX2_keep_43 (fun E H locs h1 hk hP hS => ?_)
  have hG_p := Pa_set_2 hG_p hj2 h1 hk
  have hG_n := Mu_kept hG_n (fun j h8 h9 => hk j (by omega))
  have hfr : ∀ j, (j < 8 ∨ 18 ≤ j) → E j = E0 j := fun j o0 => (hk j (by omega)).trans (hfr j o0)
  refine lv_aload_n X.1 X.2.1 dX2_keep_46 rfl (lv_at hl 0 rfl) ?_
  refine lv_bipush (v := 17) X.1 X.2.1 dX2_keep_47 (by decide) ?_
  refine lv_aload_n X.1 X.2.1 dX2_keep_49 rfl (lv_at hl 2 rfl) ?_
  refine x_get X hP hG_n.1 (by omega) rfl in_X2_keep_X1 8 (by decide) (by decide +kernel) rfl rfl dX2_keep_50 ?_
  obtain ⟨hi6, hf⟩ := gin_of hf
  refine x_iast X hP hS (hG_p.2.2 _ hj2) (by omega) hi6 dX2_keep_53 (fun E H locs h1 hk hP hS => ?_)
  have hG_p := Pa_set_2 hG_p hj2 h1 hk
  have hG_n := Mu_kept hG_n (fun j h8 h9 => hk j (by omega))
  have hfr : ∀ j, (j < 8 ∨ 18 ≤ j) → E j = E0 j := fun j o0 => (hk j (by omega)).trans (hfr j o0)
  refine lv_aload_n X.1 X.2.1 dX2_keep_54 rfl (lv_at hl 0 rfl) ?_
  refine lv_bipush (v := 18) X.1 X.2.1 dX2_keep_55 (by decide) ?_
  refine lv_aload_n X.1 X.2.1 dX2_keep_57 rfl (lv_at hl 2 rfl) ?_
  refine x_get X hP hG_n.1 (by omega) rfl in_X2_keep_X1 9 (by decide) (by decide +kernel) rfl rfl dX2_keep_58 ?_
  obtain ⟨hi7, hf⟩ := gin_of hf
  refine x_iast X hP hS (hG_p.2.2 _ hj2) (by omega) hi7 dX2_keep_61 (fun E H locs h1 hk hP hS => ?_)
  have hG_p := Pa_set_2 hG_p hj2 h1 hk
  have hG_n := Mu_kept hG_n (fun j h8 h9 => hk j (by omega))
  have hfr : ∀ j, (j < 8 ∨ 18 ≤ j) → E j = E0 j := fun j o0 => (hk j (by omega)).trans (hfr j o0)
  refine lv_aload_n X.1 X.2.1 dX2_keep_62 rfl (lv_at hl 1 rfl) ?_
  refine lv_aload_n X.1 X.2.1 dX2_keep_63 rfl (lv_at hl 1 rfl) ?_
  refine x_get X hP hG_p.1 (by omega) rfl in_X2_keep_X2 2 (by decide) (by decide +kernel) rfl rfl dX2_keep_64 ?_
  refine lv_iconst (v := 1) X.1 X.2.1 dX2_keep_67 (by decide) ?_
  refine lv_iadd X.1 X.2.1 dX2_keep_68 ?_
  refine lv_bipush (v := 8) X.1 X.2.1 dX2_keep_69 (by decide) ?_
  refine lv_irem X.1 X.2.1 dX2_keep_71 (by decide) ?_
  refine x_put (ty := .int) X hP hS hG_p.1 (by omega) rfl in_X2_keep_X2 tyX2 tyX2_ok nmX2 2 (by decide) (by decide +kernel) rfl rfl (by decide +kernel) rfl rfl (Nat.le_of_ble_eq_true rfl) dX2_keep_72 (fun E H locs h1 hk hP hS => ?_)
  have hG_p := Pa_set_0 hG_p h1 hk
  have hG_n := Mu_kept hG_n (fun j h8 h9 => hk j (by omega))
  have hfr : ∀ j, (j < 8 ∨ 18 ≤ j) → E j = E0 j := fun j o0 => (hk j (by omega)).trans (hfr j o0)
  refine lv_aload_n X.1 X.2.1 dX2_keep_75 rfl (lv_at hl 1 rfl) ?_
  refine lv_bipush (v := 8) X.1 X.2.1 dX2_keep_76 (by decide) ?_
  refine lv_aload_n X.1 X.2.1 dX2_keep_78 rfl (lv_at hl 1 rfl) ?_
  refine x_get X hP hG_p.1 (by omega) rfl in_X2_keep_X2 1 (by decide) (by decide +kernel) rfl rfl dX2_keep_79 ?_
  refine lv_iconst (v := 1) X.1 X.2.1 dX2_keep_82 (by decide) ?_
  refine lv_iadd X.1 X.2.1 dX2_keep_83 ?_
  refine x_min X (index := 47) (by decide +kernel) (by decide +kernel) (by decide +kernel) (by decide +kernel) hl.1 (by decide) (Nat.le_of_ble_eq_true rfl) dX2_keep_84 ?_
  refine x_put (ty := .int) X hP hS hG_p.1 (by omega) rfl in_X2_keep_X2 tyX2 tyX2_ok nmX2 1 (by decide) (by decide +kernel) rfl rfl (by decide +kernel) rfl rfl (Nat.le_of_ble_eq_true rfl) dX2_keep_87 (fun E H locs h1 hk hP hS => ?_)
  have hG_p := Pa_set_0 hG_p h1 hk
  have hG_n := Mu_kept hG_n (fun j h8 h9 => hk j (by omega))
  have hfr : ∀ j, (j < 8 ∨ 18 ≤ j) → E j = E0 j := fun j o0 => (hk j (by omega)).trans (hfr j o0)
  obtain rfl := Option.some.inj hf
  exact hret _ _ _ _ _ dX2_keep_90 (⟨hG_p, hfr⟩) hP hS
def bX3_begin_17 (p1 : Int32) (p2 : Int32) (K1 : ((Int32 × (Nat → Int64))) → Option (Int32 × Int32 × Int32 × (Nat → Int64))) : ((Int32 × (Nat → Int64))) → Option (Int32 × Int32 × Int32 × (Nat → Int64))
  | (v3_1, itm_r_1) => if 24 ≤ v3_1 then (some (1, p1, p2, itm_r_1)) else (gin v3_1 24 (nm (v3_1 + 1) (fun x4 => K1 (x4, vp_updL itm_r_1 (Int32.toNatClampNeg v3_1) 0))))
def fX3_begin (p1 : Int32) (p2 : Int32)  (itm_r : Nat → Int64) : Option (Int32 × Int32 × Int32 × (Nat → Int64)) := lp (bX3_begin_17 p1 p2) FU (0, itm_r)
theorem in_X3_begin_X3 : ∀ w ∈ wsX30, w ∈ wsX3_begin := by decide +kernel
set_option maxHeartbeats 4000000 in
set_option maxRecDepth 100000 in
theorem ct_X3_begin {l : Launch} {D : va_G} {g : Nat → ClassId} {qa : Nat → Nat} {E0 : Nat → va_E} {j0 : Nat} {p1 : Int32} {p2 : Int32} {th_r : Int32} {lan_r : Int32} {siz_r : Int32} {itm_r : Nat → Int64} (hb_r : j0 < 4) (hG_r : Ro g qa E0 j0 th_r lan_r siz_r itm_r) {R : (Int32 × Int32 × Int32 × (Nat → Int64))} (hf : fX3_begin p1 p2 itm_r = some R) : MV l yX3_begin wsX3_begin 0 D g qa E0 [.ref (qa (56 + j0)), .int p1, .int p2] (fun E => Ro g qa E j0 R.1 R.2.1 R.2.2.1 R.2.2.2 ∧ ∀ j, (j ≠ 56 + j0 ∧ j ≠ 60 + j0) → E j = E0 j) := by
  refine MV.mk (by decide) rfl (Nat.le_of_ble_eq_true rfl) ?_
  intro p e s m args below meth c ls Q X hret hP hS hl
  have hl : lv_has ls 4 [(0, .ref (qa (56 + j0))), (1, .int p1), (2, .int p2)] := hl
  have hfr : ∀ j, (j ≠ 56 + j0 ∧ j ≠ 60 + j0) → E0 j = E0 j := fun _ _ => rfl
  rw [fX3_begin] at hf
  refine lv_aload_n X.1 X.2.1 dX3_begin_0 rfl (lv_at hl 0 rfl) ?_
  refine lv_iconst (v := 1) X.1 X.2.1 dX3_begin_1 (by decide) ?_
  refine x_put (ty := .boolean) X hP hS hG_r.1 (by omega) rfl in_X3_begin_X3 tyX3 tyX3_ok nmX3 0 (by decide) (by decide +kernel) rfl rfl (by decide +kernel) rfl rfl (Nat.le_of_ble_eq_true rfl) dX3_begin_2 (fun E H locs h1 hk hP hS => ?_)
  have hG_r := Ro_set_0 hG_r h1 hk
  have hfr : ∀ j, (j ≠ 56 + j0 ∧ j ≠ 60 + j0) → E j = E0 j := fun j o0 => (hk j (by omega)).trans (hfr j o0)
  refine lv_aload_n X.1 X.2.1 dX3_begin_5 rfl (lv_at hl 0 rfl) ?_
  refine lv_iload_n X.1 X.2.1 dX3_begin_6 rfl (lv_at hl 1 rfl) ?_
  refine x_put (ty := .int) X hP hS hG_r.1 (by omega) rfl in_X3_begin_X3 tyX3 tyX3_ok nmX3 1 (by decide) (by decide +kernel) rfl rfl (by decide +kernel) rfl rfl (Nat.le_of_ble_eq_true rfl) dX3_begin_7 (fun E H locs h1 hk hP hS => ?_)
  have hG_r := Ro_set_0 hG_r h1 hk
  have hfr : ∀ j, (j ≠ 56 + j0 ∧ j ≠ 60 + j0) → E j = E0 j := fun j o0 => (hk j (by omega)).trans (hfr j o0)
  refine lv_aload_n X.1 X.2.1 dX3_begin_10 rfl (lv_at hl 0 rfl) ?_
  refine lv_iload_n X.1 X.2.1 dX3_begin_11 rfl (lv_at hl 2 rfl) ?_
  refine x_put (ty := .int) X hP hS hG_r.1 (by omega) rfl in_X3_begin_X3 tyX3 tyX3_ok nmX3 2 (by decide) (by decide +kernel) rfl rfl (by decide +kernel) rfl rfl (Nat.le_of_ble_eq_true rfl) dX3_begin_12 (fun E H locs h1 hk hP hS => ?_)
  have hG_r := Ro_set_0 hG_r h1 hk
  have hfr : ∀ j, (j ≠ 56 + j0 ∧ j ≠ 60 + j0) → E j = E0 j := fun j o0 => (hk j (by omega)).trans (hfr j o0)
  refine lv_iconst (v := 0) X.1 X.2.1 dX3_begin_15 (by decide) ?_
  refine lv_istore_n (lv' := [(3, .int 0), (0, .ref (qa (56 + j0))), (1, .int p1), (2, .int p2)]) X.1 X.2.1 dX3_begin_16 rfl hl (by decide) rfl (fun ls hl => ?_)
  have lp1 : ∀ (n1 : Nat) (v3_1 : Int32) (itm_r_1 : Nat → Int64) (E : Nat → va_E) (H : Heap) (locs : List Loc) (ls : Array Slot), lp (bX3_begin_17 p1 p2) n1 (v3_1, itm_r_1) = some R → va_P D vwCl (WD qa E) H → va_S (gA qa s.heap.size) s.heap H locs → Ro g qa E j0 1 p1 p2 itm_r_1 → (∀ j, (j ≠ 56 + j0 ∧ j ≠ 60 + j0) → E j = E0 j) → lv_has ls 4 [(0, .ref (qa (56 + j0))), (1, .int p1), (2, .int p2), (3, .int v3_1)] → W p l e (rmf 0) s m args below meth c H locs 0 0 Q (F0 m 17 ls []) := by
    intro n1
    induction n1 with
    | zero =>
      intro v3_1 itm_r_1 E H locs ls hf
      exact absurd hf (by intro h; cases h)
    | succ n1 ih1 =>
      intro v3_1 itm_r_1 E H locs ls hf hP hS hG_r hfr hl
      have hf : bX3_begin_17 p1 p2 (lp (bX3_begin_17 p1 p2) n1) (v3_1, itm_r_1) = some R := hf
      rw [bX3_begin_17] at hf
      refine lv_iload_n X.1 X.2.1 dX3_begin_17 rfl (lv_at hl 3 rfl) ?_
      refine lv_bipush (v := 24) X.1 X.2.1 dX3_begin_18 (by decide) ?_
      refine lv_icmp_ge (tgt := 36) X.1 X.2.1 dX3_begin_20 (by decide) (fun c2 => ?_) (fun c2 => ?_)
      · have hf := ifp hf c2
        obtain rfl := Option.some.inj hf
        exact hret _ _ _ _ _ dX3_begin_36 (⟨hG_r, hfr⟩) hP hS
      · have hf := ifn hf c2
        refine lv_aload_n X.1 X.2.1 dX3_begin_23 rfl (lv_at hl 0 rfl) ?_
        refine x_get X hP hG_r.1 (by omega) rfl in_X3_begin_X3 3 (by decide) (by decide +kernel) rfl rfl dX3_begin_24 ?_
        refine lv_iload_n X.1 X.2.1 dX3_begin_27 rfl (lv_at hl 3 rfl) ?_
        refine lv_lconst (v := 0) X.1 X.2.1 dX3_begin_28 (by decide) ?_
        obtain ⟨hi3, hf⟩ := gin_of hf
        refine x_last X hP hS hG_r.2 (by omega) hi3 dX3_begin_29 (fun E H locs h1 hk hP hS => ?_)
        have hG_r := Ro_set_1 hG_r h1 hk
        have hfr : ∀ j, (j ≠ 56 + j0 ∧ j ≠ 60 + j0) → E j = E0 j := fun j o0 => (hk j (by omega)).trans (hfr j o0)
        obtain ⟨x4, ex4, hf⟩ := nm_of hf
        refine lv_iinc (v := x4) (lv' := [(3, .int x4), (0, .ref (qa (56 + j0))), (1, .int p1), (2, .int p2)]) X.1 X.2.1 dX3_begin_30 hl (k := 3) rfl (by rw [ex4]; rfl) (by decide) rfl (fun ls hl => ?_)
        refine lv_goto (tgt := 17) X.1 X.2.1 dX3_begin_33 (by decide) ?_
        exact ih1 x4 (vp_updL itm_r_1 (Int32.toNatClampNeg v3_1) 0) _ _ _ _ hf hP hS hG_r hfr (lv_sub hl [1, 2, 3, 0] rfl)
  exact lp1 FU 0 itm_r _ _ _ _ hf hP hS hG_r hfr (lv_sub hl [1, 2, 3, 0] rfl)
def fX3_put (p1 : Int32) (p2 : Int64)  (lan_r : Int32) (itm_r : Nat → Int64) : Option ((Nat → Int64)) := if lan_r = 0 then (gin p1 24 (some (vp_updL itm_r (Int32.toNatClampNeg p1) (Int32.toInt64 ((Int32.toInt8 (Int64.toInt32 p2)).toInt32))))) else (if lan_r = 1 then (gin p1 24 (some (vp_updL itm_r (Int32.toNatClampNeg p1) (Int32.toInt64 ((Int32.toInt16 (Int64.toInt32 p2)).toInt32))))) else (if lan_r = 2 then (gin p1 24 (some (vp_updL itm_r (Int32.toNatClampNeg p1) (Int32.toInt64 (Int64.toInt32 p2))))) else (gin p1 24 (some (vp_updL itm_r (Int32.toNatClampNeg p1) p2)))))
theorem in_X3_put_X3 : ∀ w ∈ wsX30, w ∈ wsX3_put := by decide +kernel
set_option maxHeartbeats 4000000 in
set_option maxRecDepth 100000 in
theorem ct_X3_put {l : Launch} {D : va_G} {g : Nat → ClassId} {qa : Nat → Nat} {E0 : Nat → va_E} {j0 : Nat} {p1 : Int32} {p2 : Int64} {th_r : Int32} {lan_r : Int32} {siz_r : Int32} {itm_r : Nat → Int64} (hb_r : j0 < 4) (hG_r : Ro g qa E0 j0 th_r lan_r siz_r itm_r) {R : ((Nat → Int64))} (hf : fX3_put p1 p2 lan_r itm_r = some R) : MV l yX3_put wsX3_put 0 D g qa E0 [.ref (qa (56 + j0)), .int p1, .long p2] (fun E => Ro g qa E j0 th_r lan_r siz_r R ∧ ∀ j, (j ≠ 56 + j0 ∧ j ≠ 60 + j0) → E j = E0 j) := by
  refine MV.mk (by decide) rfl (Nat.le_of_ble_eq_true rfl) ?_
  intro p e s m args below meth c ls Q X hret hP hS hl
  have hl : lv_has ls 4 [(0, .ref (qa (56 + j0))), (1, .int p1), (2, .long p2)] := hl
  have hfr : ∀ j, (j ≠ 56 + j0 ∧ j ≠ 60 + j0) → E0 j = E0 j := fun _ _ => rfl
  rw [fX3_put] at hf
  refine lv_aload_n X.1 X.2.1 dX3_put_0 rfl (lv_at hl 0 rfl) ?_
  refine x_get X hP hG_r.1 (by omega) rfl in_X3_put_X3 1 (by decide) (by decide +kernel) rfl rfl dX3_put_1 ?_
  by_cases w1 : lan_r = 0
  · have hf := ifp hf w1
    refine lv_tableIn (tgt := 32) X.1 X.2.1 dX3_put_4 (by rw [w1]; decide) (by rw [w1]; decide) (off := 28) (by rw [w1]; decide) (by decide) ?_
    refine lv_aload_n X.1 X.2.1 dX3_put_32 rfl (lv_at hl 0 rfl) ?_
    refine x_get X hP hG_r.1 (by omega) rfl in_X3_put_X3 3 (by decide) (by decide +kernel) rfl rfl dX3_put_33 ?_
    refine lv_iload_n X.1 X.2.1 dX3_put_36 rfl (lv_at hl 1 rfl) ?_
    refine lv_lload_n X.1 X.2.1 dX3_put_37 rfl (lv_at hl 2 rfl) ?_
    refine lv_l2i X.1 X.2.1 dX3_put_38 rfl ?_
    refine lv_i2b X.1 X.2.1 dX3_put_39 rfl ?_
    refine lv_i2l X.1 X.2.1 dX3_put_40 rfl ?_
    obtain ⟨hi2, hf⟩ := gin_of hf
    refine x_last X hP hS hG_r.2 (by omega) hi2 dX3_put_41 (fun E H locs h1 hk hP hS => ?_)
    have hG_r := Ro_set_1 hG_r h1 hk
    have hfr : ∀ j, (j ≠ 56 + j0 ∧ j ≠ 60 + j0) → E j = E0 j := fun j o0 => (hk j (by omega)).trans (hfr j o0)
    refine lv_goto (tgt := 77) X.1 X.2.1 dX3_put_42 (by decide) ?_
    obtain rfl := Option.some.inj hf
    exact hret _ _ _ _ _ dX3_put_77 (⟨hG_r, hfr⟩) hP hS
  have hf := ifn hf w1
  by_cases w3 : lan_r = 1
  · have hf := ifp hf w3
    refine lv_tableIn (tgt := 45) X.1 X.2.1 dX3_put_4 (by rw [w3]; decide) (by rw [w3]; decide) (off := 41) (by rw [w3]; decide) (by decide) ?_
    refine lv_aload_n X.1 X.2.1 dX3_put_45 rfl (lv_at hl 0 rfl) ?_
    refine x_get X hP hG_r.1 (by omega) rfl in_X3_put_X3 3 (by decide) (by decide +kernel) rfl rfl dX3_put_46 ?_
    refine lv_iload_n X.1 X.2.1 dX3_put_49 rfl (lv_at hl 1 rfl) ?_
    refine lv_lload_n X.1 X.2.1 dX3_put_50 rfl (lv_at hl 2 rfl) ?_
    refine lv_l2i X.1 X.2.1 dX3_put_51 rfl ?_
    refine lv_i2s X.1 X.2.1 dX3_put_52 rfl ?_
    refine lv_i2l X.1 X.2.1 dX3_put_53 rfl ?_
    obtain ⟨hi4, hf⟩ := gin_of hf
    refine x_last X hP hS hG_r.2 (by omega) hi4 dX3_put_54 (fun E H locs h1 hk hP hS => ?_)
    have hG_r := Ro_set_1 hG_r h1 hk
    have hfr : ∀ j, (j ≠ 56 + j0 ∧ j ≠ 60 + j0) → E j = E0 j := fun j o0 => (hk j (by omega)).trans (hfr j o0)
    refine lv_goto (tgt := 77) X.1 X.2.1 dX3_put_55 (by decide) ?_
    obtain rfl := Option.some.inj hf
    exact hret _ _ _ _ _ dX3_put_77 (⟨hG_r, hfr⟩) hP hS
  have hf := ifn hf w3
  by_cases w5 : lan_r = 2
  · have hf := ifp hf w5
    refine lv_tableIn (tgt := 58) X.1 X.2.1 dX3_put_4 (by rw [w5]; decide) (by rw [w5]; decide) (off := 54) (by rw [w5]; decide) (by decide) ?_
    refine lv_aload_n X.1 X.2.1 dX3_put_58 rfl (lv_at hl 0 rfl) ?_
    refine x_get X hP hG_r.1 (by omega) rfl in_X3_put_X3 3 (by decide) (by decide +kernel) rfl rfl dX3_put_59 ?_
    refine lv_iload_n X.1 X.2.1 dX3_put_62 rfl (lv_at hl 1 rfl) ?_
    refine lv_lload_n X.1 X.2.1 dX3_put_63 rfl (lv_at hl 2 rfl) ?_
    refine lv_l2i X.1 X.2.1 dX3_put_64 rfl ?_
    refine lv_i2l X.1 X.2.1 dX3_put_65 rfl ?_
    obtain ⟨hi6, hf⟩ := gin_of hf
    refine x_last X hP hS hG_r.2 (by omega) hi6 dX3_put_66 (fun E H locs h1 hk hP hS => ?_)
    have hG_r := Ro_set_1 hG_r h1 hk
    have hfr : ∀ j, (j ≠ 56 + j0 ∧ j ≠ 60 + j0) → E j = E0 j := fun j o0 => (hk j (by omega)).trans (hfr j o0)
    refine lv_goto (tgt := 77) X.1 X.2.1 dX3_put_67 (by decide) ?_
    obtain rfl := Option.some.inj hf
    exact hret _ _ _ _ _ dX3_put_77 (⟨hG_r, hfr⟩) hP hS
  have hf := ifn hf w5
  refine lv_tableOut (tgt := 70) X.1 X.2.1 dX3_put_4 (by have := i_ne 0 (0) (by decide) w1; have := i_ne 1 (1) (by decide) w3; have := i_ne 2 (2) (by decide) w5; omega) (by decide) ?_
  refine lv_aload_n X.1 X.2.1 dX3_put_70 rfl (lv_at hl 0 rfl) ?_
  refine x_get X hP hG_r.1 (by omega) rfl in_X3_put_X3 3 (by decide) (by decide +kernel) rfl rfl dX3_put_71 ?_
  refine lv_iload_n X.1 X.2.1 dX3_put_74 rfl (lv_at hl 1 rfl) ?_
  refine lv_lload_n X.1 X.2.1 dX3_put_75 rfl (lv_at hl 2 rfl) ?_
  obtain ⟨hi7, hf⟩ := gin_of hf
  refine x_last X hP hS hG_r.2 (by omega) hi7 dX3_put_76 (fun E H locs h1 hk hP hS => ?_)
  have hG_r := Ro_set_1 hG_r h1 hk
  have hfr : ∀ j, (j ≠ 56 + j0 ∧ j ≠ 60 + j0) → E j = E0 j := fun j o0 => (hk j (by omega)).trans (hfr j o0)
  obtain rfl := Option.some.inj hf
  exact hret _ _ _ _ _ dX3_put_77 (⟨hG_r, hfr⟩) hP hS
def fX3_reaches (p1 : Int32) (p2 : Int32)  (siz_r : Int32) : Option Int32 := if p1 < 0 then (some 0) else (if p2 < 0 then (some 0) else (if (siz_r - p1) < p2 then (some 0) else (some 1)))
theorem in_X3_reaches_X3 : ∀ w ∈ wsX30, w ∈ wsX3_reaches := by decide +kernel
set_option maxHeartbeats 4000000 in
set_option maxRecDepth 100000 in
theorem ct_X3_reaches {l : Launch} {D : va_G} {g : Nat → ClassId} {qa : Nat → Nat} {E0 : Nat → va_E} {j0 : Nat} {p1 : Int32} {p2 : Int32} {th_r : Int32} {lan_r : Int32} {siz_r : Int32} {itm_r : Nat → Int64} (hb_r : j0 < 4) (hG_r : Ro g qa E0 j0 th_r lan_r siz_r itm_r) {R : Int32} (hf : fX3_reaches p1 p2 siz_r = some R) : MI l yX3_reaches wsX3_reaches 0 D g qa E0 [.ref (qa (56 + j0)), .int p1, .int p2] R (fun E => E = E0) := by
  refine MI.mk (by decide) rfl (Nat.le_of_ble_eq_true rfl) ?_
  intro p e s m args below meth c ls Q X hret hP hS hl
  have hl : lv_has ls 3 [(0, .ref (qa (56 + j0))), (1, .int p1), (2, .int p2)] := hl
  rw [fX3_reaches] at hf
  refine lv_iload_n X.1 X.2.1 dX3_reaches_0 rfl (lv_at hl 1 rfl) ?_
  refine lv_if_lt (tgt := 22) X.1 X.2.1 dX3_reaches_1 (by decide) (fun c1 => ?_) (fun c1 => ?_)
  · have hf := ifp hf c1
    refine lv_iconst (v := 0) X.1 X.2.1 dX3_reaches_22 (by decide) ?_
    obtain rfl := Option.some.inj hf
    exact hret _ _ _ _ _ _ dX3_reaches_23 rfl rfl (rfl) hP hS
  · have hf := ifn hf c1
    refine lv_iload_n X.1 X.2.1 dX3_reaches_4 rfl (lv_at hl 2 rfl) ?_
    refine lv_if_lt (tgt := 22) X.1 X.2.1 dX3_reaches_5 (by decide) (fun c2 => ?_) (fun c2 => ?_)
    · have hf := ifp hf c2
      refine lv_iconst (v := 0) X.1 X.2.1 dX3_reaches_22 (by decide) ?_
      obtain rfl := Option.some.inj hf
      exact hret _ _ _ _ _ _ dX3_reaches_23 rfl rfl (rfl) hP hS
    · have hf := ifn hf c2
      refine lv_iload_n X.1 X.2.1 dX3_reaches_8 rfl (lv_at hl 2 rfl) ?_
      refine lv_aload_n X.1 X.2.1 dX3_reaches_9 rfl (lv_at hl 0 rfl) ?_
      refine x_get X hP hG_r.1 (by omega) rfl in_X3_reaches_X3 2 (by decide) (by decide +kernel) rfl rfl dX3_reaches_10 ?_
      refine lv_iload_n X.1 X.2.1 dX3_reaches_13 rfl (lv_at hl 1 rfl) ?_
      refine lv_isub X.1 X.2.1 dX3_reaches_14 ?_
      refine lv_icmp_gt (tgt := 22) X.1 X.2.1 dX3_reaches_15 (by decide) (fun c3 => ?_) (fun c3 => ?_)
      · have hf := ifp hf c3
        refine lv_iconst (v := 0) X.1 X.2.1 dX3_reaches_22 (by decide) ?_
        obtain rfl := Option.some.inj hf
        exact hret _ _ _ _ _ _ dX3_reaches_23 rfl rfl (rfl) hP hS
      · have hf := ifn hf c3
        refine lv_iconst (v := 1) X.1 X.2.1 dX3_reaches_18 (by decide) ?_
        refine lv_goto (tgt := 23) X.1 X.2.1 dX3_reaches_19 (by decide) ?_
        obtain rfl := Option.some.inj hf
        exact hret _ _ _ _ _ _ dX3_reaches_23 rfl rfl (rfl) hP hS
def fX3_refuses (p1 : Int32) (p2 : Int32) (p3 : Int32)  (th_r : Int32) (lan_r : Int32) (siz_r : Int32) : Option Int32 := if th_r = 0 then (some (-11)) else (if lan_r = p1 then ((fX3_reaches p2 p3 siz_r).bind (fun r3 => if r3 = 0 then (some (-13)) else (some 0))) else (some (-12)))
theorem in_X3_refuses_X3 : ∀ w ∈ wsX30, w ∈ wsX3_refuses := by decide +kernel
set_option maxHeartbeats 4000000 in
set_option maxRecDepth 100000 in
theorem ct_X3_refuses {l : Launch} {D : va_G} {g : Nat → ClassId} {qa : Nat → Nat} {E0 : Nat → va_E} {j0 : Nat} {p1 : Int32} {p2 : Int32} {p3 : Int32} {th_r : Int32} {lan_r : Int32} {siz_r : Int32} {itm_r : Nat → Int64} (hb_r : j0 < 4) (hG_r : Ro g qa E0 j0 th_r lan_r siz_r itm_r) {R : Int32} (hf : fX3_refuses p1 p2 p3 th_r lan_r siz_r = some R) : MI l yX3_refuses wsX3_refuses 1 D g qa E0 [.ref (qa (56 + j0)), .int p1, .int p2, .int p3] R (fun E => E = E0) := by
  refine MI.mk (by decide) rfl (Nat.le_of_ble_eq_true rfl) ?_
  intro p e s m args below meth c ls Q X hret hP hS hl
  have hl : lv_has ls 4 [(0, .ref (qa (56 + j0))), (1, .int p1), (2, .int p2), (3, .int p3)] := hl
  rw [fX3_refuses] at hf
  refine lv_aload_n X.1 X.2.1 dX3_refuses_0 rfl (lv_at hl 0 rfl) ?_
  refine x_get X hP hG_r.1 (by omega) rfl in_X3_refuses_X3 0 (by decide) (by decide +kernel) rfl rfl dX3_refuses_1 ?_
  refine lv_if_ne (tgt := 10) X.1 X.2.1 dX3_refuses_4 (by decide) (fun c1 => ?_) (fun c1 => ?_)
  · have hf := ifn hf c1
    refine lv_aload_n X.1 X.2.1 dX3_refuses_10 rfl (lv_at hl 0 rfl) ?_
    refine x_get X hP hG_r.1 (by omega) rfl in_X3_refuses_X3 1 (by decide) (by decide +kernel) rfl rfl dX3_refuses_11 ?_
    refine lv_iload_n X.1 X.2.1 dX3_refuses_14 rfl (lv_at hl 1 rfl) ?_
    refine lv_icmp_eq (tgt := 21) X.1 X.2.1 dX3_refuses_15 (by decide) (fun c2 => ?_) (fun c2 => ?_)
    · have hf := ifp hf c2
      refine lv_aload_n X.1 X.2.1 dX3_refuses_21 rfl (lv_at hl 0 rfl) ?_
      refine lv_iload_n X.1 X.2.1 dX3_refuses_22 rfl (lv_at hl 2 rfl) ?_
      refine lv_iload_n X.1 X.2.1 dX3_refuses_23 rfl (lv_at hl 3 rfl) ?_
      obtain ⟨r3, hr3, hf⟩ := bd_of hf
      refine x_rdVi X hP hS hG_r.1 (by omega) rfl (n := 2) (As := [.int p2, .int p3]) (ct_X3_reaches (by omega) hG_r hr3) gX3_refuses_X3_reaches rfl (by decide +kernel) ⟨by decide, by decide⟩ rfl hl.1 rfl (Nat.le_of_ble_eq_true rfl) dX3_refuses_24 (fun H locs hP hS => ?_)
      refine lv_if_eq (tgt := 34) X.1 X.2.1 dX3_refuses_27 (by decide) (fun c4 => ?_) (fun c4 => ?_)
      · have hf := ifp hf c4
        refine lv_bipush (v := (-13)) X.1 X.2.1 dX3_refuses_34 (by decide) ?_
        obtain rfl := Option.some.inj hf
        exact hret _ _ _ _ _ _ dX3_refuses_36 rfl rfl (rfl) hP hS
      · have hf := ifn hf c4
        refine lv_iconst (v := 0) X.1 X.2.1 dX3_refuses_30 (by decide) ?_
        refine lv_goto (tgt := 36) X.1 X.2.1 dX3_refuses_31 (by decide) ?_
        obtain rfl := Option.some.inj hf
        exact hret _ _ _ _ _ _ dX3_refuses_36 rfl rfl (rfl) hP hS
    · have hf := ifn hf c2
      refine lv_bipush (v := (-12)) X.1 X.2.1 dX3_refuses_18 (by decide) ?_
      obtain rfl := Option.some.inj hf
      exact hret _ _ _ _ _ _ dX3_refuses_20 rfl rfl (rfl) hP hS
  · have hf := ifp hf c1
    refine lv_bipush (v := (-11)) X.1 X.2.1 dX3_refuses_7 (by decide) ?_
    obtain rfl := Option.some.inj hf
    exact hret _ _ _ _ _ _ dX3_refuses_9 rfl rfl (rfl) hP hS
def fX4_add (p1 : Int32)  (ln_T : Int32) (ltr_T : Nat → Int32) : Option (Int32 × Int32 × (Nat → Int32)) := if ln_T < 90 then (gin ln_T 90 (some (1, ln_T + 1, upd ltr_T (Int32.toNatClampNeg ln_T) (vp_nar .char p1)))) else (some (0, ln_T, ltr_T))
theorem in_X4_add_X4 : ∀ w ∈ wsX40, w ∈ wsX4_add := by decide +kernel
set_option maxHeartbeats 4000000 in
set_option maxRecDepth 100000 in
theorem ct_X4_add {l : Launch} {D : va_G} {g : Nat → ClassId} {qa : Nat → Nat} {E0 : Nat → va_E} {p1 : Int32} {ln_T : Int32} {plc_T : Int32} {ltr_T : Nat → Int32} (hG_T : Ta g qa E0 42 ln_T plc_T ltr_T) {R : (Int32 × Int32 × (Nat → Int32))} (hf : fX4_add p1 ln_T ltr_T = some R) : MI l yX4_add wsX4_add 0 D g qa E0 [.ref (qa 42), .int p1] R.1 (fun E => Ta g qa E 42 R.2.1 plc_T R.2.2 ∧ ∀ j, (j < 42 ∨ 44 ≤ j) → E j = E0 j) := by
  refine MI.mk (by decide) rfl (Nat.le_of_ble_eq_true rfl) ?_
  intro p e s m args below meth c ls Q X hret hP hS hl
  have hl : lv_has ls 2 [(0, .ref (qa 42)), (1, .int p1)] := hl
  have hfr : ∀ j, (j < 42 ∨ 44 ≤ j) → E0 j = E0 j := fun _ _ => rfl
  rw [fX4_add] at hf
  refine lv_aload_n X.1 X.2.1 dX4_add_0 rfl (lv_at hl 0 rfl) ?_
  refine x_get X hP hG_T.1 (by omega) rfl in_X4_add_X4 1 (by decide) (by decide +kernel) rfl rfl dX4_add_1 ?_
  refine lv_bipush (v := 90) X.1 X.2.1 dX4_add_4 (by decide) ?_
  refine lv_icmp_lt (tgt := 11) X.1 X.2.1 dX4_add_6 (by decide) (fun c1 => ?_) (fun c1 => ?_)
  · have hf := ifp hf c1
    refine lv_aload_n X.1 X.2.1 dX4_add_11 rfl (lv_at hl 0 rfl) ?_
    refine x_get X hP hG_T.1 (by omega) rfl in_X4_add_X4 0 (by decide) (by decide +kernel) rfl rfl dX4_add_12 ?_
    refine lv_aload_n X.1 X.2.1 dX4_add_15 rfl (lv_at hl 0 rfl) ?_
    refine x_get X hP hG_T.1 (by omega) rfl in_X4_add_X4 1 (by decide) (by decide +kernel) rfl rfl dX4_add_16 ?_
    refine lv_iload_n X.1 X.2.1 dX4_add_19 rfl (lv_at hl 1 rfl) ?_
    obtain ⟨hi2, hf⟩ := gin_of hf
    refine x_cast X hP hS hG_T.2 (by omega) hi2 dX4_add_20 (fun E H locs h1 hk hP hS => ?_)
    have hG_T := Ta_set_1 hG_T h1 hk
    have hfr : ∀ j, (j < 42 ∨ 44 ≤ j) → E j = E0 j := fun j o0 => (hk j (by omega)).trans (hfr j o0)
    refine lv_aload_n X.1 X.2.1 dX4_add_21 rfl (lv_at hl 0 rfl) ?_
    refine lv_dup X.1 X.2.1 dX4_add_22 rfl ?_
    refine x_get X hP hG_T.1 (by omega) rfl in_X4_add_X4 1 (by decide) (by decide +kernel) rfl rfl dX4_add_23 ?_
    refine lv_iconst (v := 1) X.1 X.2.1 dX4_add_26 (by decide) ?_
    refine lv_iadd X.1 X.2.1 dX4_add_27 ?_
    refine x_put (ty := .int) X hP hS hG_T.1 (by omega) rfl in_X4_add_X4 tyX4 tyX4_ok nmX4 1 (by decide) (by decide +kernel) rfl rfl (by decide +kernel) rfl rfl (Nat.le_of_ble_eq_true rfl) dX4_add_28 (fun E H locs h1 hk hP hS => ?_)
    have hG_T := Ta_set_0 hG_T h1 hk
    have hfr : ∀ j, (j < 42 ∨ 44 ≤ j) → E j = E0 j := fun j o0 => (hk j (by omega)).trans (hfr j o0)
    refine lv_iconst (v := 1) X.1 X.2.1 dX4_add_31 (by decide) ?_
    obtain rfl := Option.some.inj hf
    exact hret _ _ _ _ _ _ dX4_add_32 rfl rfl (⟨hG_T, hfr⟩) hP hS
  · have hf := ifn hf c1
    refine lv_iconst (v := 0) X.1 X.2.1 dX4_add_9 (by decide) ?_
    obtain rfl := Option.some.inj hf
    exact hret _ _ _ _ _ _ dX4_add_10 rfl rfl (⟨hG_T, hfr⟩) hP hS
def fX4_isDigit (p1 : Int32)   : Option Int32 := if p1 < 48 then (some 0) else (if 57 < p1 then (some 0) else (some 1))
set_option maxHeartbeats 4000000 in
set_option maxRecDepth 100000 in
theorem ct_X4_isDigit {l : Launch} {D : va_G} {g : Nat → ClassId} {qa : Nat → Nat} {E0 : Nat → va_E} {p1 : Int32} {R : Int32} (hf : fX4_isDigit p1 = some R) : MI l yX4_isDigit wsX4_isDigit 0 D g qa E0 [.int p1] R (fun E => E = E0) := by
  refine MI.mk (by decide) rfl (Nat.le_of_ble_eq_true rfl) ?_
  intro p e s m args below meth c ls Q X hret hP hS hl
  have hl : lv_has ls 1 [(0, .int p1)] := hl
  rw [fX4_isDigit] at hf
  refine lv_iload_n X.1 X.2.1 dX4_isDigit_0 rfl (lv_at hl 0 rfl) ?_
  refine lv_bipush (v := 48) X.1 X.2.1 dX4_isDigit_1 (by decide) ?_
  refine lv_icmp_lt (tgt := 16) X.1 X.2.1 dX4_isDigit_3 (by decide) (fun c1 => ?_) (fun c1 => ?_)
  · have hf := ifp hf c1
    refine lv_iconst (v := 0) X.1 X.2.1 dX4_isDigit_16 (by decide) ?_
    obtain rfl := Option.some.inj hf
    exact hret _ _ _ _ _ _ dX4_isDigit_17 rfl rfl (rfl) hP hS
  · have hf := ifn hf c1
    refine lv_iload_n X.1 X.2.1 dX4_isDigit_6 rfl (lv_at hl 0 rfl) ?_
    refine lv_bipush (v := 57) X.1 X.2.1 dX4_isDigit_7 (by decide) ?_
    refine lv_icmp_gt (tgt := 16) X.1 X.2.1 dX4_isDigit_9 (by decide) (fun c2 => ?_) (fun c2 => ?_)
    · have hf := ifp hf c2
      refine lv_iconst (v := 0) X.1 X.2.1 dX4_isDigit_16 (by decide) ?_
      obtain rfl := Option.some.inj hf
      exact hret _ _ _ _ _ _ dX4_isDigit_17 rfl rfl (rfl) hP hS
    · have hf := ifn hf c2
      refine lv_iconst (v := 1) X.1 X.2.1 dX4_isDigit_12 (by decide) ?_
      refine lv_goto (tgt := 17) X.1 X.2.1 dX4_isDigit_13 (by decide) ?_
      obtain rfl := Option.some.inj hf
      exact hret _ _ _ _ _ _ dX4_isDigit_17 rfl rfl (rfl) hP hS
def fX4_kindOf (p1 : Int32)   : Option Int32 := if p1 = 98 then (some 0) else (if p1 = 102 then (some 2) else (if p1 = 109 then (some 4) else (if p1 = 112 then (some 3) else (if p1 = 114 then (some 1) else (some (-1))))))
set_option maxHeartbeats 4000000 in
set_option maxRecDepth 100000 in
theorem ct_X4_kindOf {l : Launch} {D : va_G} {g : Nat → ClassId} {qa : Nat → Nat} {E0 : Nat → va_E} {p1 : Int32} {R : Int32} (hf : fX4_kindOf p1 = some R) : MI l yX4_kindOf wsX4_kindOf 0 D g qa E0 [.int p1] R (fun E => E = E0) := by
  refine MI.mk (by decide) rfl (Nat.le_of_ble_eq_true rfl) ?_
  intro p e s m args below meth c ls Q X hret hP hS hl
  have hl : lv_has ls 1 [(0, .int p1)] := hl
  rw [fX4_kindOf] at hf
  refine lv_iload_n X.1 X.2.1 dX4_kindOf_0 rfl (lv_at hl 0 rfl) ?_
  by_cases w1 : p1 = 98
  · have hf := ifp hf w1
    refine lv_lookup (tgt := 52) X.1 X.2.1 dX4_kindOf_1 (by decide) (off := 51) (by rw [w1]; decide) (by decide) ?_
    refine lv_iconst (v := 0) X.1 X.2.1 dX4_kindOf_52 (by decide) ?_
    obtain rfl := Option.some.inj hf
    exact hret _ _ _ _ _ _ dX4_kindOf_53 rfl rfl (rfl) hP hS
  have hf := ifn hf w1
  by_cases w2 : p1 = 102
  · have hf := ifp hf w2
    refine lv_lookup (tgt := 56) X.1 X.2.1 dX4_kindOf_1 (by decide) (off := 55) (by rw [w2]; decide) (by decide) ?_
    refine lv_iconst (v := 2) X.1 X.2.1 dX4_kindOf_56 (by decide) ?_
    obtain rfl := Option.some.inj hf
    exact hret _ _ _ _ _ _ dX4_kindOf_57 rfl rfl (rfl) hP hS
  have hf := ifn hf w2
  by_cases w3 : p1 = 109
  · have hf := ifp hf w3
    refine lv_lookup (tgt := 60) X.1 X.2.1 dX4_kindOf_1 (by decide) (off := 59) (by rw [w3]; decide) (by decide) ?_
    refine lv_iconst (v := 4) X.1 X.2.1 dX4_kindOf_60 (by decide) ?_
    obtain rfl := Option.some.inj hf
    exact hret _ _ _ _ _ _ dX4_kindOf_61 rfl rfl (rfl) hP hS
  have hf := ifn hf w3
  by_cases w4 : p1 = 112
  · have hf := ifp hf w4
    refine lv_lookup (tgt := 58) X.1 X.2.1 dX4_kindOf_1 (by decide) (off := 57) (by rw [w4]; decide) (by decide) ?_
    refine lv_iconst (v := 3) X.1 X.2.1 dX4_kindOf_58 (by decide) ?_
    obtain rfl := Option.some.inj hf
    exact hret _ _ _ _ _ _ dX4_kindOf_59 rfl rfl (rfl) hP hS
  have hf := ifn hf w4
  by_cases w5 : p1 = 114
  · have hf := ifp hf w5
    refine lv_lookup (tgt := 54) X.1 X.2.1 dX4_kindOf_1 (by decide) (off := 53) (by rw [w5]; decide) (by decide) ?_
    refine lv_iconst (v := 1) X.1 X.2.1 dX4_kindOf_54 (by decide) ?_
    obtain rfl := Option.some.inj hf
    exact hret _ _ _ _ _ _ dX4_kindOf_55 rfl rfl (rfl) hP hS
  have hf := ifn hf w5
  refine lv_lookup (tgt := 62) X.1 X.2.1 dX4_kindOf_1 (by decide) (off := 61) (by have := i_ne 98 (98) (by decide) w1; have := i_ne 102 (102) (by decide) w2; have := i_ne 109 (109) (by decide) w3; have := i_ne 112 (112) (by decide) w4; have := i_ne 114 (114) (by decide) w5; show Op.lookupswitch.offset [(98, 51), (102, 55), (109, 59), (112, 57), (114, 53)] 61 _ = 61; rw [Op.lookupswitch.offset_cons, if_neg (by omega), Op.lookupswitch.offset_cons, if_neg (by omega), Op.lookupswitch.offset_cons, if_neg (by omega), Op.lookupswitch.offset_cons, if_neg (by omega), Op.lookupswitch.offset_cons, if_neg (by omega), Op.lookupswitch.offset_nil]) (by decide) ?_
  refine lv_iconst (v := (-1)) X.1 X.2.1 dX4_kindOf_62 (by decide) ?_
  obtain rfl := Option.some.inj hf
  exact hret _ _ _ _ _ _ dX4_kindOf_63 rfl rfl (rfl) hP hS
def fX4_letterHere   (ln_T : Int32) (plc_T : Int32) (ltr_T : Nat → Int32) : Option Int32 := if ln_T ≤ plc_T then (some 0) else (gin plc_T 90 (gch (ltr_T (Int32.toNatClampNeg plc_T)) (some (ltr_T (Int32.toNatClampNeg plc_T)))))
theorem in_X4_letterHere_X4 : ∀ w ∈ wsX40, w ∈ wsX4_letterHere := by decide +kernel
set_option maxHeartbeats 4000000 in
set_option maxRecDepth 100000 in
theorem ct_X4_letterHere {l : Launch} {D : va_G} {g : Nat → ClassId} {qa : Nat → Nat} {E0 : Nat → va_E} {ln_T : Int32} {plc_T : Int32} {ltr_T : Nat → Int32} (hG_T : Ta g qa E0 42 ln_T plc_T ltr_T) {R : Int32} (hf : fX4_letterHere ln_T plc_T ltr_T = some R) : MI l yX4_letterHere wsX4_letterHere 0 D g qa E0 [.ref (qa 42)] R (fun E => E = E0) := by
  refine MI.mk (by decide) rfl (Nat.le_of_ble_eq_true rfl) ?_
  intro p e s m args below meth c ls Q X hret hP hS hl
  have hl : lv_has ls 1 [(0, .ref (qa 42))] := hl
  rw [fX4_letterHere] at hf
  refine lv_aload_n X.1 X.2.1 dX4_letterHere_0 rfl (lv_at hl 0 rfl) ?_
  refine x_get X hP hG_T.1 (by omega) rfl in_X4_letterHere_X4 2 (by decide) (by decide +kernel) rfl rfl dX4_letterHere_1 ?_
  refine lv_aload_n X.1 X.2.1 dX4_letterHere_4 rfl (lv_at hl 0 rfl) ?_
  refine x_get X hP hG_T.1 (by omega) rfl in_X4_letterHere_X4 1 (by decide) (by decide +kernel) rfl rfl dX4_letterHere_5 ?_
  refine lv_icmp_ge (tgt := 23) X.1 X.2.1 dX4_letterHere_8 (by decide) (fun c1 => ?_) (fun c1 => ?_)
  · have hf := ifp hf c1
    refine lv_iconst (v := 0) X.1 X.2.1 dX4_letterHere_23 (by decide) ?_
    obtain rfl := Option.some.inj hf
    exact hret _ _ _ _ _ _ dX4_letterHere_24 rfl rfl (rfl) hP hS
  · have hf := ifn hf c1
    refine lv_aload_n X.1 X.2.1 dX4_letterHere_11 rfl (lv_at hl 0 rfl) ?_
    refine x_get X hP hG_T.1 (by omega) rfl in_X4_letterHere_X4 0 (by decide) (by decide +kernel) rfl rfl dX4_letterHere_12 ?_
    refine lv_aload_n X.1 X.2.1 dX4_letterHere_15 rfl (lv_at hl 0 rfl) ?_
    refine x_get X hP hG_T.1 (by omega) rfl in_X4_letterHere_X4 2 (by decide) (by decide +kernel) rfl rfl dX4_letterHere_16 ?_
    obtain ⟨hi2, hf⟩ := gin_of hf
    refine x_cald X hP hG_T.2 (by omega) hi2 dX4_letterHere_19 ?_
    refine lv_goto (tgt := 24) X.1 X.2.1 dX4_letterHere_20 (by decide) ?_
    obtain ⟨hb3, hf⟩ := gch_of hf
    obtain rfl := Option.some.inj hf
    exact hret _ _ _ _ _ _ dX4_letterHere_24 (gch_n hb3) rfl (rfl) hP hS
def bX4_nextLetter_0 (ln_T : Int32) (ltr_T : Nat → Int32) (K1 : (Int32) → Option (Int32 × Int32)) : (Int32) → Option (Int32 × Int32)
  | plc_T_1 => if ln_T ≤ plc_T_1 then ((fX4_letterHere ln_T plc_T_1 ltr_T).bind (fun r3 => gch r3 (some (r3, plc_T_1)))) else (gin plc_T_1 90 (if (ltr_T (Int32.toNatClampNeg plc_T_1)) = 32 then (K1 (plc_T_1 + 1)) else ((fX4_letterHere ln_T plc_T_1 ltr_T).bind (fun r7 => gch r7 (some (r7, plc_T_1))))))
def fX4_nextLetter   (ln_T : Int32) (plc_T : Int32) (ltr_T : Nat → Int32) : Option (Int32 × Int32) := lp (bX4_nextLetter_0 ln_T ltr_T) FU plc_T
theorem in_X4_nextLetter_X4 : ∀ w ∈ wsX40, w ∈ wsX4_nextLetter := by decide +kernel
set_option maxHeartbeats 4000000 in
set_option maxRecDepth 100000 in
theorem ct_X4_nextLetter {l : Launch} {D : va_G} {g : Nat → ClassId} {qa : Nat → Nat} {E0 : Nat → va_E} {ln_T : Int32} {plc_T : Int32} {ltr_T : Nat → Int32} (hG_T : Ta g qa E0 42 ln_T plc_T ltr_T) {R : (Int32 × Int32)} (hf : fX4_nextLetter ln_T plc_T ltr_T = some R) : MI l yX4_nextLetter wsX4_nextLetter 1 D g qa E0 [.ref (qa 42)] R.1 (fun E => Ta g qa E 42 ln_T R.2 ltr_T ∧ ∀ j, (j < 42 ∨ 44 ≤ j) → E j = E0 j) := by
  refine MI.mk (by decide) rfl (Nat.le_of_ble_eq_true rfl) ?_
  intro p e s m args below meth c ls Q X hret hP hS hl
  have hl : lv_has ls 1 [(0, .ref (qa 42))] := hl
  have hfr : ∀ j, (j < 42 ∨ 44 ≤ j) → E0 j = E0 j := fun _ _ => rfl
  rw [fX4_nextLetter] at hf
  have lp1 : ∀ (n1 : Nat) (plc_T_1 : Int32) (E : Nat → va_E) (H : Heap) (locs : List Loc) (ls : Array Slot), lp (bX4_nextLetter_0 ln_T ltr_T) n1 plc_T_1 = some R → va_P D vwCl (WD qa E) H → va_S (gA qa s.heap.size) s.heap H locs → Ta g qa E 42 ln_T plc_T_1 ltr_T → (∀ j, (j < 42 ∨ 44 ≤ j) → E j = E0 j) → lv_has ls 1 [(0, .ref (qa 42))] → W p l e (rmf 1) s m args below meth c H locs 0 0 Q (F0 m 0 ls []) := by
    intro n1
    induction n1 with
    | zero =>
      intro plc_T_1 E H locs ls hf
      exact absurd hf (by intro h; cases h)
    | succ n1 ih1 =>
      intro plc_T_1 E H locs ls hf hP hS hG_T hfr hl
      have hf : bX4_nextLetter_0 ln_T ltr_T (lp (bX4_nextLetter_0 ln_T ltr_T) n1) plc_T_1 = some R := hf
      rw [bX4_nextLetter_0] at hf
      refine lv_aload_n X.1 X.2.1 dX4_nextLetter_0 rfl (lv_at hl 0 rfl) ?_
      refine x_get X hP hG_T.1 (by omega) rfl in_X4_nextLetter_X4 2 (by decide) (by decide +kernel) rfl rfl dX4_nextLetter_1 ?_
      refine lv_aload_n X.1 X.2.1 dX4_nextLetter_4 rfl (lv_at hl 0 rfl) ?_
      refine x_get X hP hG_T.1 (by omega) rfl in_X4_nextLetter_X4 1 (by decide) (by decide +kernel) rfl rfl dX4_nextLetter_5 ?_
      refine lv_icmp_ge (tgt := 38) X.1 X.2.1 dX4_nextLetter_8 (by decide) (fun c2 => ?_) (fun c2 => ?_)
      · have hf := ifp hf c2
        refine lv_aload_n X.1 X.2.1 dX4_nextLetter_38 rfl (lv_at hl 0 rfl) ?_
        obtain ⟨r3, hr3, hf⟩ := bd_of hf
        refine x_rdVi X hP hS hG_T.1 (by omega) rfl (n := 0) (As := []) (ct_X4_letterHere hG_T hr3) gX4_nextLetter_X4_letterHere rfl (by decide +kernel) ⟨by decide, by decide⟩ rfl hl.1 rfl (Nat.le_of_ble_eq_true rfl) dX4_nextLetter_39 (fun H locs hP hS => ?_)
        obtain ⟨hb4, hf⟩ := gch_of hf
        obtain rfl := Option.some.inj hf
        exact hret _ _ _ _ _ _ dX4_nextLetter_42 (gch_n hb4) rfl (⟨hG_T, hfr⟩) hP hS
      · have hf := ifn hf c2
        refine lv_aload_n X.1 X.2.1 dX4_nextLetter_11 rfl (lv_at hl 0 rfl) ?_
        refine x_get X hP hG_T.1 (by omega) rfl in_X4_nextLetter_X4 0 (by decide) (by decide +kernel) rfl rfl dX4_nextLetter_12 ?_
        refine lv_aload_n X.1 X.2.1 dX4_nextLetter_15 rfl (lv_at hl 0 rfl) ?_
        refine x_get X hP hG_T.1 (by omega) rfl in_X4_nextLetter_X4 2 (by decide) (by decide +kernel) rfl rfl dX4_nextLetter_16 ?_
        obtain ⟨hi5, hf⟩ := gin_of hf
        refine x_cald X hP hG_T.2 (by omega) hi5 dX4_nextLetter_19 ?_
        refine lv_bipush (v := 32) X.1 X.2.1 dX4_nextLetter_20 (by decide) ?_
        refine lv_icmp_ne (tgt := 38) X.1 X.2.1 dX4_nextLetter_22 (by decide) (fun c6 => ?_) (fun c6 => ?_)
        · have hf := ifn hf c6
          refine lv_aload_n X.1 X.2.1 dX4_nextLetter_38 rfl (lv_at hl 0 rfl) ?_
          obtain ⟨r7, hr7, hf⟩ := bd_of hf
          refine x_rdVi X hP hS hG_T.1 (by omega) rfl (n := 0) (As := []) (ct_X4_letterHere hG_T hr7) gX4_nextLetter_X4_letterHere rfl (by decide +kernel) ⟨by decide, by decide⟩ rfl hl.1 rfl (Nat.le_of_ble_eq_true rfl) dX4_nextLetter_39 (fun H locs hP hS => ?_)
          obtain ⟨hb8, hf⟩ := gch_of hf
          obtain rfl := Option.some.inj hf
          exact hret _ _ _ _ _ _ dX4_nextLetter_42 (gch_n hb8) rfl (⟨hG_T, hfr⟩) hP hS
        · have hf := ifp hf c6
          refine lv_aload_n X.1 X.2.1 dX4_nextLetter_25 rfl (lv_at hl 0 rfl) ?_
          refine lv_dup X.1 X.2.1 dX4_nextLetter_26 rfl ?_
          refine x_get X hP hG_T.1 (by omega) rfl in_X4_nextLetter_X4 2 (by decide) (by decide +kernel) rfl rfl dX4_nextLetter_27 ?_
          refine lv_iconst (v := 1) X.1 X.2.1 dX4_nextLetter_30 (by decide) ?_
          refine lv_iadd X.1 X.2.1 dX4_nextLetter_31 ?_
          refine x_put (ty := .int) X hP hS hG_T.1 (by omega) rfl in_X4_nextLetter_X4 tyX4 tyX4_ok nmX4 2 (by decide) (by decide +kernel) rfl rfl (by decide +kernel) rfl rfl (Nat.le_of_ble_eq_true rfl) dX4_nextLetter_32 (fun E H locs h1 hk hP hS => ?_)
          have hG_T := Ta_set_0 hG_T h1 hk
          have hfr : ∀ j, (j < 42 ∨ 44 ≤ j) → E j = E0 j := fun j o0 => (hk j (by omega)).trans (hfr j o0)
          refine lv_goto (tgt := 0) X.1 X.2.1 dX4_nextLetter_35 (by decide) ?_
          exact ih1 (plc_T_1 + 1) _ _ _ _ hf hP hS hG_T hfr (lv_sub hl [0] rfl)
  exact lp1 FU plc_T _ _ _ _ hf hP hS hG_T hfr (lv_sub hl [0] rfl)
def bX4_readNumber_23 (ln_T : Int32) (ltr_T : Nat → Int32) (p1 : Int32) (p2 : Int32) (x4 : Int32) (K5 : ((Int32 × Int32 × Int32)) → Option (Int32 × Int32)) : ((Int32 × Int32 × Int32)) → Option (Int32 × Int32)
  | (v4_5, v5_5, plc_T_5) => if 2 ≤ v5_5 then (if v4_5 < p1 then (some ((-1), x4)) else (if v4_5 ≤ p2 then (some (v4_5, plc_T_5)) else (some ((-1), x4)))) else ((fX4_letterHere ln_T plc_T_5 ltr_T).bind (fun r9 => (fX4_isDigit r9).bind (fun r10 => if r10 = 0 then (if v4_5 < p1 then (some ((-1), x4)) else (if v4_5 ≤ p2 then (some (v4_5, plc_T_5)) else (some ((-1), x4)))) else ((fX4_letterHere ln_T plc_T_5 ltr_T).bind (fun r14 => nm ((10 * v4_5) + (r14 - 48)) (fun x15 => nm (v5_5 + 1) (fun x16 => K5 (x15, x16, plc_T_5 + 1))))))))
def fX4_readNumber (p1 : Int32) (p2 : Int32)  (ln_T : Int32) (plc_T : Int32) (ltr_T : Nat → Int32) : Option (Int32 × Int32) := (fX4_nextLetter ln_T plc_T ltr_T).bind (fun r1 => (fX4_isDigit r1.1).bind (fun r2 => if r2 = 0 then (some ((-1), r1.2)) else (nm (r1.2) (fun x4 => lp (bX4_readNumber_23 ln_T ltr_T p1 p2 x4) FU (0, 0, r1.2)))))
theorem in_X4_readNumber_X4 : ∀ w ∈ wsX40, w ∈ wsX4_readNumber := by decide +kernel
set_option maxHeartbeats 4000000 in
set_option maxRecDepth 100000 in
theorem ct_X4_readNumber {l : Launch} {D : va_G} {g : Nat → ClassId} {qa : Nat → Nat} {E0 : Nat → va_E} {p1 : Int32} {p2 : Int32} {ln_T : Int32} {plc_T : Int32} {ltr_T : Nat → Int32} (hG_T : Ta g qa E0 42 ln_T plc_T ltr_T) {R : (Int32 × Int32)} (hf : fX4_readNumber p1 p2 ln_T plc_T ltr_T = some R) : MI l yX4_readNumber wsX4_readNumber 2 D g qa E0 [.ref (qa 42), .int p1, .int p2] R.1 (fun E => Ta g qa E 42 ln_T R.2 ltr_T ∧ ∀ j, (j < 42 ∨ 44 ≤ j) → E j = E0 j) := by
  refine MI.mk (by decide) rfl (Nat.le_of_ble_eq_true rfl) ?_
  intro p e s m args below meth c ls Q X hret hP hS hl
  have hl : lv_has ls 6 [(0, .ref (qa 42)), (1, .int p1), (2, .int p2)] := hl
  have hfr : ∀ j, (j < 42 ∨ 44 ≤ j) → E0 j = E0 j := fun _ _ => rfl
  rw [fX4_readNumber] at hf
  refine lv_aload_n X.1 X.2.1 dX4_readNumber_0 rfl (lv_at hl 0 rfl) ?_
  obtain ⟨r1, hr1, hf⟩ := bd_of hf
  refine x_callVi X hP hS hG_T.1 (by omega) rfl (n := 0) (As := []) (ct_X4_nextLetter hG_T hr1) gX4_readNumber_X4_nextLetter rfl (by decide +kernel) ⟨by decide, by decide⟩ rfl hl.1 rfl (Nat.le_of_ble_eq_true rfl) dX4_readNumber_1 (fun E H locs hp hP hS => ?_)
  obtain ⟨hW_T, hk⟩ := hp
  have hG_T := hW_T
  have hfr : ∀ j, (j < 42 ∨ 44 ≤ j) → E j = E0 j := fun j o0 => (hk j (by omega)).trans (hfr j o0)
  obtain ⟨r2, hr2, hf⟩ := bd_of hf
  refine x_rdSi X hP hS (index := 67) (n := 1) (As := [.int r1.1]) (ct_X4_isDigit  hr2) ggX4_readNumber_X4_isDigit (by decide +kernel) (by decide +kernel) (by decide +kernel) rfl (by decide +kernel) ⟨by decide, by decide⟩ rfl hl.1 rfl (Nat.le_of_ble_eq_true rfl) dX4_readNumber_4 (fun H locs hP hS => ?_)
  refine lv_if_ne (tgt := 12) X.1 X.2.1 dX4_readNumber_7 (by decide) (fun c3 => ?_) (fun c3 => ?_)
  · have hf := ifn hf c3
    refine lv_aload_n X.1 X.2.1 dX4_readNumber_12 rfl (lv_at hl 0 rfl) ?_
    refine x_get X hP hG_T.1 (by omega) rfl in_X4_readNumber_X4 2 (by decide) (by decide +kernel) rfl rfl dX4_readNumber_13 ?_
    obtain ⟨x4, ex4, hf⟩ := nm_of hf
    refine lv_top_as ex4 ?_
    refine lv_istore_n (lv' := [(3, .int x4), (0, .ref (qa 42)), (1, .int p1), (2, .int p2)]) X.1 X.2.1 dX4_readNumber_16 rfl hl (by decide) rfl (fun ls hl => ?_)
    refine lv_iconst (v := 0) X.1 X.2.1 dX4_readNumber_17 (by decide) ?_
    refine lv_istore (lv' := [(4, .int 0), (3, .int x4), (0, .ref (qa 42)), (1, .int p1), (2, .int p2)]) X.1 X.2.1 dX4_readNumber_18 hl (by decide) rfl (fun ls hl => ?_)
    refine lv_iconst (v := 0) X.1 X.2.1 dX4_readNumber_20 (by decide) ?_
    refine lv_istore (lv' := [(5, .int 0), (4, .int 0), (3, .int x4), (0, .ref (qa 42)), (1, .int p1), (2, .int p2)]) X.1 X.2.1 dX4_readNumber_21 hl (by decide) rfl (fun ls hl => ?_)
    have lp5 : ∀ (n5 : Nat) (v4_5 : Int32) (v5_5 : Int32) (plc_T_5 : Int32) (E : Nat → va_E) (H : Heap) (locs : List Loc) (ls : Array Slot), lp (bX4_readNumber_23 ln_T ltr_T p1 p2 x4) n5 (v4_5, v5_5, plc_T_5) = some R → va_P D vwCl (WD qa E) H → va_S (gA qa s.heap.size) s.heap H locs → Ta g qa E 42 ln_T plc_T_5 ltr_T → (∀ j, (j < 42 ∨ 44 ≤ j) → E j = E0 j) → lv_has ls 6 [(0, .ref (qa 42)), (1, .int p1), (2, .int p2), (3, .int x4), (4, .int v4_5), (5, .int v5_5)] → W p l e (rmf 2) s m args below meth c H locs 0 0 Q (F0 m 23 ls []) := by
      intro n5
      induction n5 with
      | zero =>
        intro v4_5 v5_5 plc_T_5 E H locs ls hf
        exact absurd hf (by intro h; cases h)
      | succ n5 ih5 =>
        intro v4_5 v5_5 plc_T_5 E H locs ls hf hP hS hG_T hfr hl
        have hf : bX4_readNumber_23 ln_T ltr_T p1 p2 x4 (lp (bX4_readNumber_23 ln_T ltr_T p1 p2 x4) n5) (v4_5, v5_5, plc_T_5) = some R := hf
        rw [bX4_readNumber_23] at hf
        refine lv_iload X.1 X.2.1 dX4_readNumber_23 (lv_at hl 5 rfl) ?_
        refine lv_iconst (v := 2) X.1 X.2.1 dX4_readNumber_25 (by decide) ?_
        refine lv_icmp_ge (tgt := 70) X.1 X.2.1 dX4_readNumber_26 (by decide) (fun c6 => ?_) (fun c6 => ?_)
        · have hf := ifp hf c6
          refine lv_iload X.1 X.2.1 dX4_readNumber_70 (lv_at hl 4 rfl) ?_
          refine lv_iload_n X.1 X.2.1 dX4_readNumber_72 rfl (lv_at hl 1 rfl) ?_
          refine lv_icmp_lt (tgt := 82) X.1 X.2.1 dX4_readNumber_73 (by decide) (fun c7 => ?_) (fun c7 => ?_)
          · have hf := ifp hf c7
            refine lv_aload_n X.1 X.2.1 dX4_readNumber_82 rfl (lv_at hl 0 rfl) ?_
            refine lv_iload_n X.1 X.2.1 dX4_readNumber_83 rfl (lv_at hl 3 rfl) ?_
            refine x_put (ty := .int) X hP hS hG_T.1 (by omega) rfl in_X4_readNumber_X4 tyX4 tyX4_ok nmX4 2 (by decide) (by decide +kernel) rfl rfl (by decide +kernel) rfl rfl (Nat.le_of_ble_eq_true rfl) dX4_readNumber_84 (fun E H locs h1 hk hP hS => ?_)
            have hG_T := Ta_set_0 hG_T h1 hk
            have hfr : ∀ j, (j < 42 ∨ 44 ≤ j) → E j = E0 j := fun j o0 => (hk j (by omega)).trans (hfr j o0)
            refine lv_iconst (v := (-1)) X.1 X.2.1 dX4_readNumber_87 (by decide) ?_
            obtain rfl := Option.some.inj hf
            exact hret _ _ _ _ _ _ dX4_readNumber_88 rfl rfl (⟨hG_T, hfr⟩) hP hS
          · have hf := ifn hf c7
            refine lv_iload X.1 X.2.1 dX4_readNumber_76 (lv_at hl 4 rfl) ?_
            refine lv_iload_n X.1 X.2.1 dX4_readNumber_78 rfl (lv_at hl 2 rfl) ?_
            refine lv_icmp_le (tgt := 89) X.1 X.2.1 dX4_readNumber_79 (by decide) (fun c8 => ?_) (fun c8 => ?_)
            · have hf := ifp hf c8
              refine lv_iload X.1 X.2.1 dX4_readNumber_89 (lv_at hl 4 rfl) ?_
              obtain rfl := Option.some.inj hf
              exact hret _ _ _ _ _ _ dX4_readNumber_91 rfl rfl (⟨hG_T, hfr⟩) hP hS
            · have hf := ifn hf c8
              refine lv_aload_n X.1 X.2.1 dX4_readNumber_82 rfl (lv_at hl 0 rfl) ?_
              refine lv_iload_n X.1 X.2.1 dX4_readNumber_83 rfl (lv_at hl 3 rfl) ?_
              refine x_put (ty := .int) X hP hS hG_T.1 (by omega) rfl in_X4_readNumber_X4 tyX4 tyX4_ok nmX4 2 (by decide) (by decide +kernel) rfl rfl (by decide +kernel) rfl rfl (Nat.le_of_ble_eq_true rfl) dX4_readNumber_84 (fun E H locs h1 hk hP hS => ?_)
              have hG_T := Ta_set_0 hG_T h1 hk
              have hfr : ∀ j, (j < 42 ∨ 44 ≤ j) → E j = E0 j := fun j o0 => (hk j (by omega)).trans (hfr j o0)
              refine lv_iconst (v := (-1)) X.1 X.2.1 dX4_readNumber_87 (by decide) ?_
              obtain rfl := Option.some.inj hf
              exact hret _ _ _ _ _ _ dX4_readNumber_88 rfl rfl (⟨hG_T, hfr⟩) hP hS
        · have hf := ifn hf c6
          refine lv_aload_n X.1 X.2.1 dX4_readNumber_29 rfl (lv_at hl 0 rfl) ?_
          obtain ⟨r9, hr9, hf⟩ := bd_of hf
          refine x_rdVi X hP hS hG_T.1 (by omega) rfl (n := 0) (As := []) (ct_X4_letterHere hG_T hr9) gX4_readNumber_X4_letterHere rfl (by decide +kernel) ⟨by decide, by decide⟩ rfl hl.1 rfl (Nat.le_of_ble_eq_true rfl) dX4_readNumber_30 (fun H locs hP hS => ?_)
          obtain ⟨r10, hr10, hf⟩ := bd_of hf
          refine x_rdSi X hP hS (index := 67) (n := 1) (As := [.int r9]) (ct_X4_isDigit  hr10) ggX4_readNumber_X4_isDigit (by decide +kernel) (by decide +kernel) (by decide +kernel) rfl (by decide +kernel) ⟨by decide, by decide⟩ rfl hl.1 rfl (Nat.le_of_ble_eq_true rfl) dX4_readNumber_33 (fun H locs hP hS => ?_)
          refine lv_if_eq (tgt := 70) X.1 X.2.1 dX4_readNumber_36 (by decide) (fun c11 => ?_) (fun c11 => ?_)
          · have hf := ifp hf c11
            refine lv_iload X.1 X.2.1 dX4_readNumber_70 (lv_at hl 4 rfl) ?_
            refine lv_iload_n X.1 X.2.1 dX4_readNumber_72 rfl (lv_at hl 1 rfl) ?_
            refine lv_icmp_lt (tgt := 82) X.1 X.2.1 dX4_readNumber_73 (by decide) (fun c12 => ?_) (fun c12 => ?_)
            · have hf := ifp hf c12
              refine lv_aload_n X.1 X.2.1 dX4_readNumber_82 rfl (lv_at hl 0 rfl) ?_
              refine lv_iload_n X.1 X.2.1 dX4_readNumber_83 rfl (lv_at hl 3 rfl) ?_
              refine x_put (ty := .int) X hP hS hG_T.1 (by omega) rfl in_X4_readNumber_X4 tyX4 tyX4_ok nmX4 2 (by decide) (by decide +kernel) rfl rfl (by decide +kernel) rfl rfl (Nat.le_of_ble_eq_true rfl) dX4_readNumber_84 (fun E H locs h1 hk hP hS => ?_)
              have hG_T := Ta_set_0 hG_T h1 hk
              have hfr : ∀ j, (j < 42 ∨ 44 ≤ j) → E j = E0 j := fun j o0 => (hk j (by omega)).trans (hfr j o0)
              refine lv_iconst (v := (-1)) X.1 X.2.1 dX4_readNumber_87 (by decide) ?_
              obtain rfl := Option.some.inj hf
              exact hret _ _ _ _ _ _ dX4_readNumber_88 rfl rfl (⟨hG_T, hfr⟩) hP hS
            · have hf := ifn hf c12
              refine lv_iload X.1 X.2.1 dX4_readNumber_76 (lv_at hl 4 rfl) ?_
              refine lv_iload_n X.1 X.2.1 dX4_readNumber_78 rfl (lv_at hl 2 rfl) ?_
              refine lv_icmp_le (tgt := 89) X.1 X.2.1 dX4_readNumber_79 (by decide) (fun c13 => ?_) (fun c13 => ?_)
              · have hf := ifp hf c13
                refine lv_iload X.1 X.2.1 dX4_readNumber_89 (lv_at hl 4 rfl) ?_
                obtain rfl := Option.some.inj hf
                exact hret _ _ _ _ _ _ dX4_readNumber_91 rfl rfl (⟨hG_T, hfr⟩) hP hS
              · have hf := ifn hf c13
                refine lv_aload_n X.1 X.2.1 dX4_readNumber_82 rfl (lv_at hl 0 rfl) ?_
                refine lv_iload_n X.1 X.2.1 dX4_readNumber_83 rfl (lv_at hl 3 rfl) ?_
                refine x_put (ty := .int) X hP hS hG_T.1 (by omega) rfl in_X4_readNumber_X4 tyX4 tyX4_ok nmX4 2 (by decide) (by decide +kernel) rfl rfl (by decide +kernel) rfl rfl (Nat.le_of_ble_eq_true rfl) dX4_readNumber_84 (fun E H locs h1 hk hP hS => ?_)
                have hG_T := Ta_set_0 hG_T h1 hk
                have hfr : ∀ j, (j < 42 ∨ 44 ≤ j) → E j = E0 j := fun j o0 => (hk j (by omega)).trans (hfr j o0)
                refine lv_iconst (v := (-1)) X.1 X.2.1 dX4_readNumber_87 (by decide) ?_
                obtain rfl := Option.some.inj hf
                exact hret _ _ _ _ _ _ dX4_readNumber_88 rfl rfl (⟨hG_T, hfr⟩) hP hS
          · have hf := ifn hf c11
            refine lv_bipush (v := 10) X.1 X.2.1 dX4_readNumber_39 (by decide) ?_
            refine lv_iload X.1 X.2.1 dX4_readNumber_41 (lv_at hl 4 rfl) ?_
            refine lv_imul X.1 X.2.1 dX4_readNumber_43 ?_
            refine lv_aload_n X.1 X.2.1 dX4_readNumber_44 rfl (lv_at hl 0 rfl) ?_
            obtain ⟨r14, hr14, hf⟩ := bd_of hf
            refine x_rdVi X hP hS hG_T.1 (by omega) rfl (n := 0) (As := []) (ct_X4_letterHere hG_T hr14) gX4_readNumber_X4_letterHere rfl (by decide +kernel) ⟨by decide, by decide⟩ rfl hl.1 rfl (Nat.le_of_ble_eq_true rfl) dX4_readNumber_45 (fun H locs hP hS => ?_)
            refine lv_bipush (v := 48) X.1 X.2.1 dX4_readNumber_48 (by decide) ?_
            refine lv_isub X.1 X.2.1 dX4_readNumber_50 ?_
            refine lv_iadd X.1 X.2.1 dX4_readNumber_51 ?_
            obtain ⟨x15, ex15, hf⟩ := nm_of hf
            refine lv_top_as ex15 ?_
            refine lv_istore (lv' := [(4, .int x15), (0, .ref (qa 42)), (1, .int p1), (2, .int p2), (3, .int x4), (5, .int v5_5)]) X.1 X.2.1 dX4_readNumber_52 hl (by decide) rfl (fun ls hl => ?_)
            refine lv_aload_n X.1 X.2.1 dX4_readNumber_54 rfl (lv_at hl 1 rfl) ?_
            refine lv_dup X.1 X.2.1 dX4_readNumber_55 rfl ?_
            refine x_get X hP hG_T.1 (by omega) rfl in_X4_readNumber_X4 2 (by decide) (by decide +kernel) rfl rfl dX4_readNumber_56 ?_
            refine lv_iconst (v := 1) X.1 X.2.1 dX4_readNumber_59 (by decide) ?_
            refine lv_iadd X.1 X.2.1 dX4_readNumber_60 ?_
            refine x_put (ty := .int) X hP hS hG_T.1 (by omega) rfl in_X4_readNumber_X4 tyX4 tyX4_ok nmX4 2 (by decide) (by decide +kernel) rfl rfl (by decide +kernel) rfl rfl (Nat.le_of_ble_eq_true rfl) dX4_readNumber_61 (fun E H locs h1 hk hP hS => ?_)
            have hG_T := Ta_set_0 hG_T h1 hk
            have hfr : ∀ j, (j < 42 ∨ 44 ≤ j) → E j = E0 j := fun j o0 => (hk j (by omega)).trans (hfr j o0)
            obtain ⟨x16, ex16, hf⟩ := nm_of hf
            refine lv_iinc (v := x16) (lv' := [(5, .int x16), (4, .int x15), (0, .ref (qa 42)), (1, .int p1), (2, .int p2), (3, .int x4)]) X.1 X.2.1 dX4_readNumber_64 hl (k := 5) rfl (by rw [ex16]; rfl) (by decide) rfl (fun ls hl => ?_)
            refine lv_goto (tgt := 23) X.1 X.2.1 dX4_readNumber_67 (by decide) ?_
            exact ih5 x15 x16 (plc_T_5 + 1) _ _ _ _ hf hP hS hG_T hfr (lv_sub hl [2, 3, 4, 5, 1, 0] rfl)
    exact lp5 FU 0 0 r1.2 _ _ _ _ hf hP hS hG_T hfr (lv_sub hl [3, 4, 5, 2, 1, 0] rfl)
  · have hf := ifp hf c3
    refine lv_iconst (v := (-1)) X.1 X.2.1 dX4_readNumber_10 (by decide) ?_
    obtain rfl := Option.some.inj hf
    exact hret _ _ _ _ _ _ dX4_readNumber_11 rfl rfl (⟨hG_T, hfr⟩) hP hS
def fX4_takes (p1 : Int32)  (ln_T : Int32) (plc_T : Int32) (ltr_T : Nat → Int32) : Option (Int32 × Int32) := (fX4_nextLetter ln_T plc_T ltr_T).bind (fun r1 => if r1.1 = p1 then (some (1, r1.2 + 1)) else (some (0, r1.2)))
theorem in_X4_takes_X4 : ∀ w ∈ wsX40, w ∈ wsX4_takes := by decide +kernel
set_option maxHeartbeats 4000000 in
set_option maxRecDepth 100000 in
theorem ct_X4_takes {l : Launch} {D : va_G} {g : Nat → ClassId} {qa : Nat → Nat} {E0 : Nat → va_E} {p1 : Int32} {ln_T : Int32} {plc_T : Int32} {ltr_T : Nat → Int32} (hG_T : Ta g qa E0 42 ln_T plc_T ltr_T) {R : (Int32 × Int32)} (hf : fX4_takes p1 ln_T plc_T ltr_T = some R) : MI l yX4_takes wsX4_takes 2 D g qa E0 [.ref (qa 42), .int p1] R.1 (fun E => Ta g qa E 42 ln_T R.2 ltr_T ∧ ∀ j, (j < 42 ∨ 44 ≤ j) → E j = E0 j) := by
  refine MI.mk (by decide) rfl (Nat.le_of_ble_eq_true rfl) ?_
  intro p e s m args below meth c ls Q X hret hP hS hl
  have hl : lv_has ls 2 [(0, .ref (qa 42)), (1, .int p1)] := hl
  have hfr : ∀ j, (j < 42 ∨ 44 ≤ j) → E0 j = E0 j := fun _ _ => rfl
  rw [fX4_takes] at hf
  refine lv_aload_n X.1 X.2.1 dX4_takes_0 rfl (lv_at hl 0 rfl) ?_
  obtain ⟨r1, hr1, hf⟩ := bd_of hf
  refine x_callVi X hP hS hG_T.1 (by omega) rfl (n := 0) (As := []) (ct_X4_nextLetter hG_T hr1) gX4_takes_X4_nextLetter rfl (by decide +kernel) ⟨by decide, by decide⟩ rfl hl.1 rfl (Nat.le_of_ble_eq_true rfl) dX4_takes_1 (fun E H locs hp hP hS => ?_)
  obtain ⟨hW_T, hk⟩ := hp
  have hG_T := hW_T
  have hfr : ∀ j, (j < 42 ∨ 44 ≤ j) → E j = E0 j := fun j o0 => (hk j (by omega)).trans (hfr j o0)
  refine lv_iload_n X.1 X.2.1 dX4_takes_4 rfl (lv_at hl 1 rfl) ?_
  refine lv_icmp_eq (tgt := 10) X.1 X.2.1 dX4_takes_5 (by decide) (fun c2 => ?_) (fun c2 => ?_)
  · have hf := ifp hf c2
    refine lv_aload_n X.1 X.2.1 dX4_takes_10 rfl (lv_at hl 0 rfl) ?_
    refine lv_dup X.1 X.2.1 dX4_takes_11 rfl ?_
    refine x_get X hP hG_T.1 (by omega) rfl in_X4_takes_X4 2 (by decide) (by decide +kernel) rfl rfl dX4_takes_12 ?_
    refine lv_iconst (v := 1) X.1 X.2.1 dX4_takes_15 (by decide) ?_
    refine lv_iadd X.1 X.2.1 dX4_takes_16 ?_
    refine x_put (ty := .int) X hP hS hG_T.1 (by omega) rfl in_X4_takes_X4 tyX4 tyX4_ok nmX4 2 (by decide) (by decide +kernel) rfl rfl (by decide +kernel) rfl rfl (Nat.le_of_ble_eq_true rfl) dX4_takes_17 (fun E H locs h1 hk hP hS => ?_)
    have hG_T := Ta_set_0 hG_T h1 hk
    have hfr : ∀ j, (j < 42 ∨ 44 ≤ j) → E j = E0 j := fun j o0 => (hk j (by omega)).trans (hfr j o0)
    refine lv_iconst (v := 1) X.1 X.2.1 dX4_takes_20 (by decide) ?_
    obtain rfl := Option.some.inj hf
    exact hret _ _ _ _ _ _ dX4_takes_21 rfl rfl (⟨hG_T, hfr⟩) hP hS
  · have hf := ifn hf c2
    refine lv_iconst (v := 0) X.1 X.2.1 dX4_takes_8 (by decide) ?_
    obtain rfl := Option.some.inj hf
    exact hret _ _ _ _ _ _ dX4_takes_9 rfl rfl (⟨hG_T, hfr⟩) hP hS
def fX4_readMan   (ln_T : Int32) (plc_T : Int32) (ltr_T : Nat → Int32) (men_t : Int32) (bu_t : Nat → Int32) (st_t : Nat → Int32) : Option (Int32 × Int32 × Int32 × (Nat → Int32) × (Nat → Int32)) := (fX4_readNumber 1 60 ln_T plc_T ltr_T).bind (fun r1 => nm (r1.1) (fun x2 => if 0 ≤ x2 then ((fX4_takes 45 ln_T r1.2 ltr_T).bind (fun r4 => if r4.1 = 0 then ((fX1_addMan x2 (x2 - 0) men_t bu_t st_t).bind (fun r6 => some (1, r4.2, r6.2.1, r6.2.2.1, r6.2.2.2))) else ((fX4_readNumber 0 x2 ln_T r4.2 ltr_T).bind (fun r7 => nm (r7.1) (fun x8 => if 0 ≤ x8 then ((fX1_addMan x2 (x2 - x8) men_t bu_t st_t).bind (fun r10 => some (1, r7.2, r10.2.1, r10.2.2.1, r10.2.2.2))) else (some (0, r7.2, men_t, bu_t, st_t))))))) else (some (0, r1.2, men_t, bu_t, st_t))))
theorem in_X4_readMan_X4 : ∀ w ∈ wsX40, w ∈ wsX4_readMan := by decide +kernel
set_option maxHeartbeats 4000000 in
set_option maxRecDepth 100000 in
theorem ct_X4_readMan {l : Launch} {D : va_G} {g : Nat → ClassId} {qa : Nat → Nat} {E0 : Nat → va_E} {ln_T : Int32} {plc_T : Int32} {ltr_T : Nat → Int32} {men_t : Int32} {md_t : Int32} {day_t : Int32} {drw_t : Int32} {bu_t : Nat → Int32} {st_t : Nat → Int32} {ki_t : Nat → Int32} {we_t : Nat → Int32} {wo_t : Nat → Int32} {wr_t : Nat → Int32} (hG_T : Ta g qa E0 42 ln_T plc_T ltr_T) (hG_t : Mu g qa E0 35 men_t md_t day_t drw_t bu_t st_t ki_t we_t wo_t wr_t) {R : (Int32 × Int32 × Int32 × (Nat → Int32) × (Nat → Int32))} (hf : fX4_readMan ln_T plc_T ltr_T men_t bu_t st_t = some R) : MI l yX4_readMan wsX4_readMan 3 D g qa E0 [.ref (qa 42), .ref (qa 35)] R.1 (fun E => Ta g qa E 42 ln_T R.2.1 ltr_T ∧ Mu g qa E 35 R.2.2.1 md_t day_t drw_t R.2.2.2.1 R.2.2.2.2 ki_t we_t wo_t wr_t ∧ ∀ j, (j < 42 ∨ 44 ≤ j) → (j < 35 ∨ 42 ≤ j) → E j = E0 j) := by
  refine MI.mk (by decide) rfl (Nat.le_of_ble_eq_true rfl) ?_
  intro p e s m args below meth c ls Q X hret hP hS hl
  have hl : lv_has ls 4 [(0, .ref (qa 42)), (1, .ref (qa 35))] := hl
  have hfr : ∀ j, (j < 42 ∨ 44 ≤ j) → (j < 35 ∨ 42 ≤ j) → E0 j = E0 j := fun _ _ _ => rfl
  rw [fX4_readMan] at hf
  refine lv_aload_n X.1 X.2.1 dX4_readMan_0 rfl (lv_at hl 0 rfl) ?_
  refine lv_iconst (v := 1) X.1 X.2.1 dX4_readMan_1 (by decide) ?_
  refine lv_bipush (v := 60) X.1 X.2.1 dX4_readMan_2 (by decide) ?_
  obtain ⟨r1, hr1, hf⟩ := bd_of hf
  refine x_callVi X hP hS hG_T.1 (by omega) rfl (n := 2) (As := [.int 1, .int 60]) (ct_X4_readNumber hG_T hr1) gX4_readMan_X4_readNumber rfl (by decide +kernel) ⟨by decide, by decide⟩ rfl hl.1 rfl (Nat.le_of_ble_eq_true rfl) dX4_readMan_4 (fun E H locs hp hP hS => ?_)
  obtain ⟨hW_T, hk⟩ := hp
  have hG_T := hW_T
  have hG_t := Mu_kept hG_t (fun j h8 h9 => hk j (by omega))
  have hfr : ∀ j, (j < 42 ∨ 44 ≤ j) → (j < 35 ∨ 42 ≤ j) → E j = E0 j := fun j o0 o1 => (hk j (by omega)).trans (hfr j o0 o1)
  obtain ⟨x2, ex2, hf⟩ := nm_of hf
  refine lv_top_as ex2 ?_
  refine lv_istore_n (lv' := [(2, .int x2), (0, .ref (qa 42)), (1, .ref (qa 35))]) X.1 X.2.1 dX4_readMan_7 rfl hl (by decide) rfl (fun ls hl => ?_)
  refine lv_iload_n X.1 X.2.1 dX4_readMan_8 rfl (lv_at hl 0 rfl) ?_
  refine lv_if_ge (tgt := 14) X.1 X.2.1 dX4_readMan_9 (by decide) (fun c3 => ?_) (fun c3 => ?_)
  · have hf := ifp hf c3
    refine lv_aload_n X.1 X.2.1 dX4_readMan_14 rfl (lv_at hl 1 rfl) ?_
    refine lv_bipush (v := 45) X.1 X.2.1 dX4_readMan_15 (by decide) ?_
    obtain ⟨r4, hr4, hf⟩ := bd_of hf
    refine x_callVi X hP hS hG_T.1 (by omega) rfl (n := 1) (As := [.int 45]) (ct_X4_takes hG_T hr4) gX4_readMan_X4_takes rfl (by decide +kernel) ⟨by decide, by decide⟩ rfl hl.1 rfl (Nat.le_of_ble_eq_true rfl) dX4_readMan_17 (fun E H locs hp hP hS => ?_)
    obtain ⟨hW_T, hk⟩ := hp
    have hG_T := hW_T
    have hG_t := Mu_kept hG_t (fun j h8 h9 => hk j (by omega))
    have hfr : ∀ j, (j < 42 ∨ 44 ≤ j) → (j < 35 ∨ 42 ≤ j) → E j = E0 j := fun j o0 o1 => (hk j (by omega)).trans (hfr j o0 o1)
    refine lv_if_eq (tgt := 32) X.1 X.2.1 dX4_readMan_20 (by decide) (fun c5 => ?_) (fun c5 => ?_)
    · have hf := ifp hf c5
      refine lv_iconst (v := 0) X.1 X.2.1 dX4_readMan_32 (by decide) ?_
      refine lv_istore_n (lv' := [(3, .int 0), (2, .int x2), (0, .ref (qa 42)), (1, .ref (qa 35))]) X.1 X.2.1 dX4_readMan_33 rfl hl (by decide) rfl (fun ls hl => ?_)
      refine lv_iload_n X.1 X.2.1 dX4_readMan_34 rfl (lv_at hl 0 rfl) ?_
      refine lv_if_ge (tgt := 40) X.1 X.2.1 dX4_readMan_35 (by decide) (fun _ => ?_) (fun q => absurd (by decide) q)
      refine lv_aload_n X.1 X.2.1 dX4_readMan_40 rfl (lv_at hl 3 rfl) ?_
      refine lv_iload_n X.1 X.2.1 dX4_readMan_41 rfl (lv_at hl 1 rfl) ?_
      refine lv_iload_n X.1 X.2.1 dX4_readMan_42 rfl (lv_at hl 1 rfl) ?_
      refine lv_iload_n X.1 X.2.1 dX4_readMan_43 rfl (lv_at hl 0 rfl) ?_
      refine lv_isub X.1 X.2.1 dX4_readMan_44 ?_
      obtain ⟨r6, hr6, hf⟩ := bd_of hf
      refine x_callVi X hP hS hG_t.1 (by omega) rfl (n := 2) (As := [.int x2, .int (x2 - 0)]) (ct_X1_addMan (by omega) hG_t hr6) gX4_readMan_X1_addMan rfl (by decide +kernel) ⟨by decide, by decide⟩ rfl hl.1 rfl (Nat.le_of_ble_eq_true rfl) dX4_readMan_45 (fun E H locs hp hP hS => ?_)
      obtain ⟨hW_n, hk⟩ := hp
      have hG_t := hW_n
      have hG_T := Ta_kept hG_T (fun j h8 h9 => hk j (by omega))
      have hfr : ∀ j, (j < 42 ∨ 44 ≤ j) → (j < 35 ∨ 42 ≤ j) → E j = E0 j := fun j o0 o1 => (hk j (by omega)).trans (hfr j o0 o1)
      refine lv_pop X.1 X.2.1 dX4_readMan_48 rfl ?_
      refine lv_iconst (v := 1) X.1 X.2.1 dX4_readMan_49 (by decide) ?_
      obtain rfl := Option.some.inj hf
      exact hret _ _ _ _ _ _ dX4_readMan_50 rfl rfl (⟨hG_T, hG_t, hfr⟩) hP hS
    · have hf := ifn hf c5
      refine lv_aload_n X.1 X.2.1 dX4_readMan_23 rfl (lv_at hl 1 rfl) ?_
      refine lv_iconst (v := 0) X.1 X.2.1 dX4_readMan_24 (by decide) ?_
      refine lv_iload_n X.1 X.2.1 dX4_readMan_25 rfl (lv_at hl 0 rfl) ?_
      obtain ⟨r7, hr7, hf⟩ := bd_of hf
      refine x_callVi X hP hS hG_T.1 (by omega) rfl (n := 2) (As := [.int 0, .int x2]) (ct_X4_readNumber hG_T hr7) gX4_readMan_X4_readNumber rfl (by decide +kernel) ⟨by decide, by decide⟩ rfl hl.1 rfl (Nat.le_of_ble_eq_true rfl) dX4_readMan_26 (fun E H locs hp hP hS => ?_)
      obtain ⟨hW_T, hk⟩ := hp
      have hG_T := hW_T
      have hG_t := Mu_kept hG_t (fun j h8 h9 => hk j (by omega))
      have hfr : ∀ j, (j < 42 ∨ 44 ≤ j) → (j < 35 ∨ 42 ≤ j) → E j = E0 j := fun j o0 o1 => (hk j (by omega)).trans (hfr j o0 o1)
      refine lv_goto (tgt := 33) X.1 X.2.1 dX4_readMan_29 (by decide) ?_
      obtain ⟨x8, ex8, hf⟩ := nm_of hf
      refine lv_top_as ex8 ?_
      refine lv_istore_n (lv' := [(3, .int x8), (2, .int x2), (0, .ref (qa 42)), (1, .ref (qa 35))]) X.1 X.2.1 dX4_readMan_33 rfl hl (by decide) rfl (fun ls hl => ?_)
      refine lv_iload_n X.1 X.2.1 dX4_readMan_34 rfl (lv_at hl 0 rfl) ?_
      refine lv_if_ge (tgt := 40) X.1 X.2.1 dX4_readMan_35 (by decide) (fun c9 => ?_) (fun c9 => ?_)
      · have hf := ifp hf c9
        refine lv_aload_n X.1 X.2.1 dX4_readMan_40 rfl (lv_at hl 3 rfl) ?_
        refine lv_iload_n X.1 X.2.1 dX4_readMan_41 rfl (lv_at hl 1 rfl) ?_
        refine lv_iload_n X.1 X.2.1 dX4_readMan_42 rfl (lv_at hl 1 rfl) ?_
        refine lv_iload_n X.1 X.2.1 dX4_readMan_43 rfl (lv_at hl 0 rfl) ?_
        refine lv_isub X.1 X.2.1 dX4_readMan_44 ?_
        obtain ⟨r10, hr10, hf⟩ := bd_of hf
        refine x_callVi X hP hS hG_t.1 (by omega) rfl (n := 2) (As := [.int x2, .int (x2 - x8)]) (ct_X1_addMan (by omega) hG_t hr10) gX4_readMan_X1_addMan rfl (by decide +kernel) ⟨by decide, by decide⟩ rfl hl.1 rfl (Nat.le_of_ble_eq_true rfl) dX4_readMan_45 (fun E H locs hp hP hS => ?_)
        obtain ⟨hW_n, hk⟩ := hp
        have hG_t := hW_n
        have hG_T := Ta_kept hG_T (fun j h8 h9 => hk j (by omega))
        have hfr : ∀ j, (j < 42 ∨ 44 ≤ j) → (j < 35 ∨ 42 ≤ j) → E j = E0 j := fun j o0 o1 => (hk j (by omega)).trans (hfr j o0 o1)
        refine lv_pop X.1 X.2.1 dX4_readMan_48 rfl ?_
        refine lv_iconst (v := 1) X.1 X.2.1 dX4_readMan_49 (by decide) ?_
        obtain rfl := Option.some.inj hf
        exact hret _ _ _ _ _ _ dX4_readMan_50 rfl rfl (⟨hG_T, hG_t, hfr⟩) hP hS
      · have hf := ifn hf c9
        refine lv_iconst (v := 0) X.1 X.2.1 dX4_readMan_38 (by decide) ?_
        obtain rfl := Option.some.inj hf
        exact hret _ _ _ _ _ _ dX4_readMan_39 rfl rfl (⟨hG_T, hG_t, hfr⟩) hP hS
  · have hf := ifn hf c3
    refine lv_iconst (v := 0) X.1 X.2.1 dX4_readMan_12 (by decide) ?_
    obtain rfl := Option.some.inj hf
    exact hret _ _ _ _ _ _ dX4_readMan_13 rfl rfl (⟨hG_T, hG_t, hfr⟩) hP hS
def fX4_readManOf   (ln_T : Int32) (plc_T : Int32) (ltr_T : Nat → Int32) (men_t : Int32) : Option (Int32 × Int32) := (fX4_nextLetter ln_T plc_T ltr_T).bind (fun r1 => nm (r1.1) (fun x2 => (fX4_isDigit x2).bind (fun r3 => if r3 = 0 then (some ((-1), r1.2)) else ((fX1_hasMan (x2 - 48) men_t).bind (fun r5 => if r5 = 0 then (some ((-1), r1.2)) else (some (x2 - 48, r1.2 + 1)))))))
theorem in_X4_readManOf_X4 : ∀ w ∈ wsX40, w ∈ wsX4_readManOf := by decide +kernel
set_option maxHeartbeats 4000000 in
set_option maxRecDepth 100000 in
theorem ct_X4_readManOf {l : Launch} {D : va_G} {g : Nat → ClassId} {qa : Nat → Nat} {E0 : Nat → va_E} {ln_T : Int32} {plc_T : Int32} {ltr_T : Nat → Int32} {men_t : Int32} {md_t : Int32} {day_t : Int32} {drw_t : Int32} {bu_t : Nat → Int32} {st_t : Nat → Int32} {ki_t : Nat → Int32} {we_t : Nat → Int32} {wo_t : Nat → Int32} {wr_t : Nat → Int32} (hG_T : Ta g qa E0 42 ln_T plc_T ltr_T) (hG_t : Mu g qa E0 35 men_t md_t day_t drw_t bu_t st_t ki_t we_t wo_t wr_t) {R : (Int32 × Int32)} (hf : fX4_readManOf ln_T plc_T ltr_T men_t = some R) : MI l yX4_readManOf wsX4_readManOf 2 D g qa E0 [.ref (qa 42), .ref (qa 35)] R.1 (fun E => Ta g qa E 42 ln_T R.2 ltr_T ∧ ∀ j, (j < 42 ∨ 44 ≤ j) → E j = E0 j) := by
  refine MI.mk (by decide) rfl (Nat.le_of_ble_eq_true rfl) ?_
  intro p e s m args below meth c ls Q X hret hP hS hl
  have hl : lv_has ls 3 [(0, .ref (qa 42)), (1, .ref (qa 35))] := hl
  have hfr : ∀ j, (j < 42 ∨ 44 ≤ j) → E0 j = E0 j := fun _ _ => rfl
  rw [fX4_readManOf] at hf
  refine lv_aload_n X.1 X.2.1 dX4_readManOf_0 rfl (lv_at hl 0 rfl) ?_
  obtain ⟨r1, hr1, hf⟩ := bd_of hf
  refine x_callVi X hP hS hG_T.1 (by omega) rfl (n := 0) (As := []) (ct_X4_nextLetter hG_T hr1) gX4_readManOf_X4_nextLetter rfl (by decide +kernel) ⟨by decide, by decide⟩ rfl hl.1 rfl (Nat.le_of_ble_eq_true rfl) dX4_readManOf_1 (fun E H locs hp hP hS => ?_)
  obtain ⟨hW_T, hk⟩ := hp
  have hG_T := hW_T
  have hG_t := Mu_kept hG_t (fun j h8 h9 => hk j (by omega))
  have hfr : ∀ j, (j < 42 ∨ 44 ≤ j) → E j = E0 j := fun j o0 => (hk j (by omega)).trans (hfr j o0)
  obtain ⟨x2, ex2, hf⟩ := nm_of hf
  refine lv_top_as ex2 ?_
  refine lv_istore_n (lv' := [(2, .int x2), (0, .ref (qa 42)), (1, .ref (qa 35))]) X.1 X.2.1 dX4_readManOf_4 rfl hl (by decide) rfl (fun ls hl => ?_)
  refine lv_iload_n X.1 X.2.1 dX4_readManOf_5 rfl (lv_at hl 0 rfl) ?_
  obtain ⟨r3, hr3, hf⟩ := bd_of hf
  refine x_rdSi X hP hS (index := 67) (n := 1) (As := [.int x2]) (ct_X4_isDigit  hr3) ggX4_readManOf_X4_isDigit (by decide +kernel) (by decide +kernel) (by decide +kernel) rfl (by decide +kernel) ⟨by decide, by decide⟩ rfl hl.1 rfl (Nat.le_of_ble_eq_true rfl) dX4_readManOf_6 (fun H locs hP hS => ?_)
  refine lv_if_eq (tgt := 23) X.1 X.2.1 dX4_readManOf_9 (by decide) (fun c4 => ?_) (fun c4 => ?_)
  · have hf := ifp hf c4
    refine lv_iconst (v := (-1)) X.1 X.2.1 dX4_readManOf_23 (by decide) ?_
    obtain rfl := Option.some.inj hf
    exact hret _ _ _ _ _ _ dX4_readManOf_24 rfl rfl (⟨hG_T, hfr⟩) hP hS
  · have hf := ifn hf c4
    refine lv_aload_n X.1 X.2.1 dX4_readManOf_12 rfl (lv_at hl 2 rfl) ?_
    refine lv_iload_n X.1 X.2.1 dX4_readManOf_13 rfl (lv_at hl 0 rfl) ?_
    refine lv_bipush (v := 48) X.1 X.2.1 dX4_readManOf_14 (by decide) ?_
    refine lv_isub X.1 X.2.1 dX4_readManOf_16 ?_
    obtain ⟨r5, hr5, hf⟩ := bd_of hf
    refine x_rdVi X hP hS hG_t.1 (by omega) rfl (n := 1) (As := [.int (x2 - 48)]) (ct_X1_hasMan (by omega) hG_t hr5) gX4_readManOf_X1_hasMan rfl (by decide +kernel) ⟨by decide, by decide⟩ rfl hl.1 rfl (Nat.le_of_ble_eq_true rfl) dX4_readManOf_17 (fun H locs hP hS => ?_)
    refine lv_if_ne (tgt := 25) X.1 X.2.1 dX4_readManOf_20 (by decide) (fun c6 => ?_) (fun c6 => ?_)
    · have hf := ifn hf c6
      refine lv_aload_n X.1 X.2.1 dX4_readManOf_25 rfl (lv_at hl 1 rfl) ?_
      refine lv_dup X.1 X.2.1 dX4_readManOf_26 rfl ?_
      refine x_get X hP hG_T.1 (by omega) rfl in_X4_readManOf_X4 2 (by decide) (by decide +kernel) rfl rfl dX4_readManOf_27 ?_
      refine lv_iconst (v := 1) X.1 X.2.1 dX4_readManOf_30 (by decide) ?_
      refine lv_iadd X.1 X.2.1 dX4_readManOf_31 ?_
      refine x_put (ty := .int) X hP hS hG_T.1 (by omega) rfl in_X4_readManOf_X4 tyX4 tyX4_ok nmX4 2 (by decide) (by decide +kernel) rfl rfl (by decide +kernel) rfl rfl (Nat.le_of_ble_eq_true rfl) dX4_readManOf_32 (fun E H locs h1 hk hP hS => ?_)
      have hG_T := Ta_set_0 hG_T h1 hk
      have hG_t := Mu_kept hG_t (fun j h8 h9 => hk j (by omega))
      have hfr : ∀ j, (j < 42 ∨ 44 ≤ j) → E j = E0 j := fun j o0 => (hk j (by omega)).trans (hfr j o0)
      refine lv_iload_n X.1 X.2.1 dX4_readManOf_35 rfl (lv_at hl 0 rfl) ?_
      refine lv_bipush (v := 48) X.1 X.2.1 dX4_readManOf_36 (by decide) ?_
      refine lv_isub X.1 X.2.1 dX4_readManOf_38 ?_
      obtain rfl := Option.some.inj hf
      exact hret _ _ _ _ _ _ dX4_readManOf_39 rfl rfl (⟨hG_T, hfr⟩) hP hS
    · have hf := ifp hf c6
      refine lv_iconst (v := (-1)) X.1 X.2.1 dX4_readManOf_23 (by decide) ?_
      obtain rfl := Option.some.inj hf
      exact hret _ _ _ _ _ _ dX4_readManOf_24 rfl rfl (⟨hG_T, hfr⟩) hP hS
def fX4_readMedal   (ln_T : Int32) (plc_T : Int32) (ltr_T : Nat → Int32) (men_t : Int32) (md_t : Int32) (ki_t : Nat → Int32) (we_t : Nat → Int32) (wo_t : Nat → Int32) (wr_t : Nat → Int32) : Option (Int32 × Int32 × Int32 × (Nat → Int32) × (Nat → Int32) × (Nat → Int32) × (Nat → Int32)) := (fX4_nextLetter ln_T plc_T ltr_T).bind (fun r1 => (fX4_kindOf r1.1).bind (fun r2 => if 0 ≤ r2 then ((fX4_readNumber 1 20 ln_T (r1.2 + 1) ltr_T).bind (fun r4 => nm (r4.1) (fun x5 => if x5 < 0 then (some (0, r4.2, md_t, ki_t, we_t, wo_t, wr_t)) else ((fX4_takes 58 ln_T r4.2 ltr_T).bind (fun r7 => if r7.1 = 0 then (some (0, r7.2, md_t, ki_t, we_t, wo_t, wr_t)) else ((fX4_readManOf ln_T r7.2 ltr_T men_t).bind (fun r9 => nm (r9.1) (fun x10 => if 0 ≤ x10 then ((fX4_takes 64 ln_T r9.2 ltr_T).bind (fun r12 => if r12.1 = 0 then ((fX1_addMedal r2 x5 x10 (-4) md_t ki_t we_t wo_t wr_t).bind (fun r14 => some (1, r12.2, r14.2.1, r14.2.2.1, r14.2.2.2.1, r14.2.2.2.2.1, r14.2.2.2.2.2))) else ((fX4_readManOf ln_T r12.2 ltr_T men_t).bind (fun r15 => nm (r15.1) (fun x16 => if 0 ≤ x16 then ((fX1_addMedal r2 x5 x10 x16 md_t ki_t we_t wo_t wr_t).bind (fun r18 => some (1, r15.2, r18.2.1, r18.2.2.1, r18.2.2.2.1, r18.2.2.2.2.1, r18.2.2.2.2.2))) else (some (0, r15.2, md_t, ki_t, we_t, wo_t, wr_t))))))) else (some (0, r9.2, md_t, ki_t, we_t, wo_t, wr_t)))))))))) else (some (0, r1.2, md_t, ki_t, we_t, wo_t, wr_t))))
theorem in_X4_readMedal_X4 : ∀ w ∈ wsX40, w ∈ wsX4_readMedal := by decide +kernel
set_option maxHeartbeats 4000000 in
set_option maxRecDepth 100000 in
theorem ct_X4_readMedal {l : Launch} {D : va_G} {g : Nat → ClassId} {qa : Nat → Nat} {E0 : Nat → va_E} {ln_T : Int32} {plc_T : Int32} {ltr_T : Nat → Int32} {men_t : Int32} {md_t : Int32} {day_t : Int32} {drw_t : Int32} {bu_t : Nat → Int32} {st_t : Nat → Int32} {ki_t : Nat → Int32} {we_t : Nat → Int32} {wo_t : Nat → Int32} {wr_t : Nat → Int32} (hG_T : Ta g qa E0 42 ln_T plc_T ltr_T) (hG_t : Mu g qa E0 35 men_t md_t day_t drw_t bu_t st_t ki_t we_t wo_t wr_t) {R : (Int32 × Int32 × Int32 × (Nat → Int32) × (Nat → Int32) × (Nat → Int32) × (Nat → Int32))} (hf : fX4_readMedal ln_T plc_T ltr_T men_t md_t ki_t we_t wo_t wr_t = some R) : MI l yX4_readMedal wsX4_readMedal 3 D g qa E0 [.ref (qa 42), .ref (qa 35)] R.1 (fun E => Ta g qa E 42 ln_T R.2.1 ltr_T ∧ Mu g qa E 35 men_t R.2.2.1 day_t drw_t bu_t st_t R.2.2.2.1 R.2.2.2.2.1 R.2.2.2.2.2.1 R.2.2.2.2.2.2 ∧ ∀ j, (j < 42 ∨ 44 ≤ j) → (j < 35 ∨ 42 ≤ j) → E j = E0 j) := by
  refine MI.mk (by decide) rfl (Nat.le_of_ble_eq_true rfl) ?_
  intro p e s m args below meth c ls Q X hret hP hS hl
  have hl : lv_has ls 6 [(0, .ref (qa 42)), (1, .ref (qa 35))] := hl
  have hfr : ∀ j, (j < 42 ∨ 44 ≤ j) → (j < 35 ∨ 42 ≤ j) → E0 j = E0 j := fun _ _ _ => rfl
  rw [fX4_readMedal] at hf
  refine lv_aload_n X.1 X.2.1 dX4_readMedal_0 rfl (lv_at hl 0 rfl) ?_
  obtain ⟨r1, hr1, hf⟩ := bd_of hf
  refine x_callVi X hP hS hG_T.1 (by omega) rfl (n := 0) (As := []) (ct_X4_nextLetter hG_T hr1) gX4_readMedal_X4_nextLetter rfl (by decide +kernel) ⟨by decide, by decide⟩ rfl hl.1 rfl (Nat.le_of_ble_eq_true rfl) dX4_readMedal_1 (fun E H locs hp hP hS => ?_)
  obtain ⟨hW_T, hk⟩ := hp
  have hG_T := hW_T
  have hG_t := Mu_kept hG_t (fun j h8 h9 => hk j (by omega))
  have hfr : ∀ j, (j < 42 ∨ 44 ≤ j) → (j < 35 ∨ 42 ≤ j) → E j = E0 j := fun j o0 o1 => (hk j (by omega)).trans (hfr j o0 o1)
  obtain ⟨r2, hr2, hf⟩ := bd_of hf
  refine x_rdSi X hP hS (index := 52) (n := 1) (As := [.int r1.1]) (ct_X4_kindOf  hr2) ggX4_readMedal_X4_kindOf (by decide +kernel) (by decide +kernel) (by decide +kernel) rfl (by decide +kernel) ⟨by decide, by decide⟩ rfl hl.1 rfl (Nat.le_of_ble_eq_true rfl) dX4_readMedal_4 (fun H locs hP hS => ?_)
  refine lv_istore_n (lv' := [(2, .int r2), (0, .ref (qa 42)), (1, .ref (qa 35))]) X.1 X.2.1 dX4_readMedal_7 rfl hl (by decide) rfl (fun ls hl => ?_)
  refine lv_iload_n X.1 X.2.1 dX4_readMedal_8 rfl (lv_at hl 0 rfl) ?_
  refine lv_if_ge (tgt := 14) X.1 X.2.1 dX4_readMedal_9 (by decide) (fun c3 => ?_) (fun c3 => ?_)
  · have hf := ifp hf c3
    refine lv_aload_n X.1 X.2.1 dX4_readMedal_14 rfl (lv_at hl 1 rfl) ?_
    refine lv_dup X.1 X.2.1 dX4_readMedal_15 rfl ?_
    refine x_get X hP hG_T.1 (by omega) rfl in_X4_readMedal_X4 2 (by decide) (by decide +kernel) rfl rfl dX4_readMedal_16 ?_
    refine lv_iconst (v := 1) X.1 X.2.1 dX4_readMedal_19 (by decide) ?_
    refine lv_iadd X.1 X.2.1 dX4_readMedal_20 ?_
    refine x_put (ty := .int) X hP hS hG_T.1 (by omega) rfl in_X4_readMedal_X4 tyX4 tyX4_ok nmX4 2 (by decide) (by decide +kernel) rfl rfl (by decide +kernel) rfl rfl (Nat.le_of_ble_eq_true rfl) dX4_readMedal_21 (fun E H locs h1 hk hP hS => ?_)
    have hG_T := Ta_set_0 hG_T h1 hk
    have hG_t := Mu_kept hG_t (fun j h8 h9 => hk j (by omega))
    have hfr : ∀ j, (j < 42 ∨ 44 ≤ j) → (j < 35 ∨ 42 ≤ j) → E j = E0 j := fun j o0 o1 => (hk j (by omega)).trans (hfr j o0 o1)
    refine lv_aload_n X.1 X.2.1 dX4_readMedal_24 rfl (lv_at hl 1 rfl) ?_
    refine lv_iconst (v := 1) X.1 X.2.1 dX4_readMedal_25 (by decide) ?_
    refine lv_bipush (v := 20) X.1 X.2.1 dX4_readMedal_26 (by decide) ?_
    obtain ⟨r4, hr4, hf⟩ := bd_of hf
    refine x_callVi X hP hS hG_T.1 (by omega) rfl (n := 2) (As := [.int 1, .int 20]) (ct_X4_readNumber hG_T hr4) gX4_readMedal_X4_readNumber rfl (by decide +kernel) ⟨by decide, by decide⟩ rfl hl.1 rfl (Nat.le_of_ble_eq_true rfl) dX4_readMedal_28 (fun E H locs hp hP hS => ?_)
    obtain ⟨hW_T, hk⟩ := hp
    have hG_T := hW_T
    have hG_t := Mu_kept hG_t (fun j h8 h9 => hk j (by omega))
    have hfr : ∀ j, (j < 42 ∨ 44 ≤ j) → (j < 35 ∨ 42 ≤ j) → E j = E0 j := fun j o0 o1 => (hk j (by omega)).trans (hfr j o0 o1)
    obtain ⟨x5, ex5, hf⟩ := nm_of hf
    refine lv_top_as ex5 ?_
    refine lv_istore_n (lv' := [(3, .int x5), (2, .int r2), (0, .ref (qa 42)), (1, .ref (qa 35))]) X.1 X.2.1 dX4_readMedal_31 rfl hl (by decide) rfl (fun ls hl => ?_)
    refine lv_iload_n X.1 X.2.1 dX4_readMedal_32 rfl (lv_at hl 0 rfl) ?_
    refine lv_if_lt (tgt := 45) X.1 X.2.1 dX4_readMedal_33 (by decide) (fun c6 => ?_) (fun c6 => ?_)
    · have hf := ifp hf c6
      refine lv_iconst (v := 0) X.1 X.2.1 dX4_readMedal_45 (by decide) ?_
      obtain rfl := Option.some.inj hf
      exact hret _ _ _ _ _ _ dX4_readMedal_46 rfl rfl (⟨hG_T, hG_t, hfr⟩) hP hS
    · have hf := ifn hf c6
      refine lv_aload_n X.1 X.2.1 dX4_readMedal_36 rfl (lv_at hl 2 rfl) ?_
      refine lv_bipush (v := 58) X.1 X.2.1 dX4_readMedal_37 (by decide) ?_
      obtain ⟨r7, hr7, hf⟩ := bd_of hf
      refine x_callVi X hP hS hG_T.1 (by omega) rfl (n := 1) (As := [.int 58]) (ct_X4_takes hG_T hr7) gX4_readMedal_X4_takes rfl (by decide +kernel) ⟨by decide, by decide⟩ rfl hl.1 rfl (Nat.le_of_ble_eq_true rfl) dX4_readMedal_39 (fun E H locs hp hP hS => ?_)
      obtain ⟨hW_T, hk⟩ := hp
      have hG_T := hW_T
      have hG_t := Mu_kept hG_t (fun j h8 h9 => hk j (by omega))
      have hfr : ∀ j, (j < 42 ∨ 44 ≤ j) → (j < 35 ∨ 42 ≤ j) → E j = E0 j := fun j o0 o1 => (hk j (by omega)).trans (hfr j o0 o1)
      refine lv_if_ne (tgt := 47) X.1 X.2.1 dX4_readMedal_42 (by decide) (fun c8 => ?_) (fun c8 => ?_)
      · have hf := ifn hf c8
        refine lv_aload_n X.1 X.2.1 dX4_readMedal_47 rfl (lv_at hl 2 rfl) ?_
        refine lv_aload_n X.1 X.2.1 dX4_readMedal_48 rfl (lv_at hl 3 rfl) ?_
        obtain ⟨r9, hr9, hf⟩ := bd_of hf
        refine x_callVi X hP hS hG_T.1 (by omega) rfl (n := 1) (As := [.ref (qa 35)]) (ct_X4_readManOf hG_T hG_t hr9) gX4_readMedal_X4_readManOf rfl (by decide +kernel) ⟨by decide, by decide⟩ rfl hl.1 rfl (Nat.le_of_ble_eq_true rfl) dX4_readMedal_49 (fun E H locs hp hP hS => ?_)
        obtain ⟨hW_T, hk⟩ := hp
        have hG_T := hW_T
        have hG_t := Mu_kept hG_t (fun j h8 h9 => hk j (by omega))
        have hfr : ∀ j, (j < 42 ∨ 44 ≤ j) → (j < 35 ∨ 42 ≤ j) → E j = E0 j := fun j o0 o1 => (hk j (by omega)).trans (hfr j o0 o1)
        obtain ⟨x10, ex10, hf⟩ := nm_of hf
        refine lv_top_as ex10 ?_
        refine lv_istore (lv' := [(4, .int x10), (3, .int x5), (2, .int r2), (0, .ref (qa 42)), (1, .ref (qa 35))]) X.1 X.2.1 dX4_readMedal_52 hl (by decide) rfl (fun ls hl => ?_)
        refine lv_iload X.1 X.2.1 dX4_readMedal_54 (lv_at hl 0 rfl) ?_
        refine lv_if_ge (tgt := 61) X.1 X.2.1 dX4_readMedal_56 (by decide) (fun c11 => ?_) (fun c11 => ?_)
        · have hf := ifp hf c11
          refine lv_bipush (v := (-4)) X.1 X.2.1 dX4_readMedal_61 (by decide) ?_
          refine lv_istore (lv' := [(5, .int (-4)), (4, .int x10), (3, .int x5), (2, .int r2), (0, .ref (qa 42)), (1, .ref (qa 35))]) X.1 X.2.1 dX4_readMedal_63 hl (by decide) rfl (fun ls hl => ?_)
          refine lv_aload_n X.1 X.2.1 dX4_readMedal_65 rfl (lv_at hl 4 rfl) ?_
          refine lv_bipush (v := 64) X.1 X.2.1 dX4_readMedal_66 (by decide) ?_
          obtain ⟨r12, hr12, hf⟩ := bd_of hf
          refine x_callVi X hP hS hG_T.1 (by omega) rfl (n := 1) (As := [.int 64]) (ct_X4_takes hG_T hr12) gX4_readMedal_X4_takes rfl (by decide +kernel) ⟨by decide, by decide⟩ rfl hl.1 rfl (Nat.le_of_ble_eq_true rfl) dX4_readMedal_68 (fun E H locs hp hP hS => ?_)
          obtain ⟨hW_T, hk⟩ := hp
          have hG_T := hW_T
          have hG_t := Mu_kept hG_t (fun j h8 h9 => hk j (by omega))
          have hfr : ∀ j, (j < 42 ∨ 44 ≤ j) → (j < 35 ∨ 42 ≤ j) → E j = E0 j := fun j o0 o1 => (hk j (by omega)).trans (hfr j o0 o1)
          refine lv_if_eq (tgt := 88) X.1 X.2.1 dX4_readMedal_71 (by decide) (fun c13 => ?_) (fun c13 => ?_)
          · have hf := ifp hf c13
            refine lv_aload_n X.1 X.2.1 dX4_readMedal_88 rfl (lv_at hl 5 rfl) ?_
            refine lv_iload_n X.1 X.2.1 dX4_readMedal_89 rfl (lv_at hl 3 rfl) ?_
            refine lv_iload_n X.1 X.2.1 dX4_readMedal_90 rfl (lv_at hl 2 rfl) ?_
            refine lv_iload X.1 X.2.1 dX4_readMedal_91 (lv_at hl 1 rfl) ?_
            refine lv_iload X.1 X.2.1 dX4_readMedal_93 (lv_at hl 0 rfl) ?_
            obtain ⟨r14, hr14, hf⟩ := bd_of hf
            refine x_callVi X hP hS hG_t.1 (by omega) rfl (n := 4) (As := [.int r2, .int x5, .int x10, .int (-4)]) (ct_X1_addMedal (by omega) hG_t hr14) gX4_readMedal_X1_addMedal rfl (by decide +kernel) ⟨by decide, by decide⟩ rfl hl.1 rfl (Nat.le_of_ble_eq_true rfl) dX4_readMedal_95 (fun E H locs hp hP hS => ?_)
            obtain ⟨hW_n, hk⟩ := hp
            have hG_t := hW_n
            have hG_T := Ta_kept hG_T (fun j h8 h9 => hk j (by omega))
            have hfr : ∀ j, (j < 42 ∨ 44 ≤ j) → (j < 35 ∨ 42 ≤ j) → E j = E0 j := fun j o0 o1 => (hk j (by omega)).trans (hfr j o0 o1)
            refine lv_pop X.1 X.2.1 dX4_readMedal_98 rfl ?_
            refine lv_iconst (v := 1) X.1 X.2.1 dX4_readMedal_99 (by decide) ?_
            obtain rfl := Option.some.inj hf
            exact hret _ _ _ _ _ _ dX4_readMedal_100 rfl rfl (⟨hG_T, hG_t, hfr⟩) hP hS
          · have hf := ifn hf c13
            refine lv_aload_n X.1 X.2.1 dX4_readMedal_74 rfl (lv_at hl 4 rfl) ?_
            refine lv_aload_n X.1 X.2.1 dX4_readMedal_75 rfl (lv_at hl 5 rfl) ?_
            obtain ⟨r15, hr15, hf⟩ := bd_of hf
            refine x_callVi X hP hS hG_T.1 (by omega) rfl (n := 1) (As := [.ref (qa 35)]) (ct_X4_readManOf hG_T hG_t hr15) gX4_readMedal_X4_readManOf rfl (by decide +kernel) ⟨by decide, by decide⟩ rfl hl.1 rfl (Nat.le_of_ble_eq_true rfl) dX4_readMedal_76 (fun E H locs hp hP hS => ?_)
            obtain ⟨hW_T, hk⟩ := hp
            have hG_T := hW_T
            have hG_t := Mu_kept hG_t (fun j h8 h9 => hk j (by omega))
            have hfr : ∀ j, (j < 42 ∨ 44 ≤ j) → (j < 35 ∨ 42 ≤ j) → E j = E0 j := fun j o0 o1 => (hk j (by omega)).trans (hfr j o0 o1)
            obtain ⟨x16, ex16, hf⟩ := nm_of hf
            refine lv_top_as ex16 ?_
            refine lv_istore (lv' := [(5, .int x16), (4, .int x10), (3, .int x5), (2, .int r2), (0, .ref (qa 42)), (1, .ref (qa 35))]) X.1 X.2.1 dX4_readMedal_79 hl (by decide) rfl (fun ls hl => ?_)
            refine lv_iload X.1 X.2.1 dX4_readMedal_81 (lv_at hl 0 rfl) ?_
            refine lv_if_ge (tgt := 88) X.1 X.2.1 dX4_readMedal_83 (by decide) (fun c17 => ?_) (fun c17 => ?_)
            · have hf := ifp hf c17
              refine lv_aload_n X.1 X.2.1 dX4_readMedal_88 rfl (lv_at hl 5 rfl) ?_
              refine lv_iload_n X.1 X.2.1 dX4_readMedal_89 rfl (lv_at hl 3 rfl) ?_
              refine lv_iload_n X.1 X.2.1 dX4_readMedal_90 rfl (lv_at hl 2 rfl) ?_
              refine lv_iload X.1 X.2.1 dX4_readMedal_91 (lv_at hl 1 rfl) ?_
              refine lv_iload X.1 X.2.1 dX4_readMedal_93 (lv_at hl 0 rfl) ?_
              obtain ⟨r18, hr18, hf⟩ := bd_of hf
              refine x_callVi X hP hS hG_t.1 (by omega) rfl (n := 4) (As := [.int r2, .int x5, .int x10, .int x16]) (ct_X1_addMedal (by omega) hG_t hr18) gX4_readMedal_X1_addMedal rfl (by decide +kernel) ⟨by decide, by decide⟩ rfl hl.1 rfl (Nat.le_of_ble_eq_true rfl) dX4_readMedal_95 (fun E H locs hp hP hS => ?_)
              obtain ⟨hW_n, hk⟩ := hp
              have hG_t := hW_n
              have hG_T := Ta_kept hG_T (fun j h8 h9 => hk j (by omega))
              have hfr : ∀ j, (j < 42 ∨ 44 ≤ j) → (j < 35 ∨ 42 ≤ j) → E j = E0 j := fun j o0 o1 => (hk j (by omega)).trans (hfr j o0 o1)
              refine lv_pop X.1 X.2.1 dX4_readMedal_98 rfl ?_
              refine lv_iconst (v := 1) X.1 X.2.1 dX4_readMedal_99 (by decide) ?_
              obtain rfl := Option.some.inj hf
              exact hret _ _ _ _ _ _ dX4_readMedal_100 rfl rfl (⟨hG_T, hG_t, hfr⟩) hP hS
            · have hf := ifn hf c17
              refine lv_iconst (v := 0) X.1 X.2.1 dX4_readMedal_86 (by decide) ?_
              obtain rfl := Option.some.inj hf
              exact hret _ _ _ _ _ _ dX4_readMedal_87 rfl rfl (⟨hG_T, hG_t, hfr⟩) hP hS
        · have hf := ifn hf c11
          refine lv_iconst (v := 0) X.1 X.2.1 dX4_readMedal_59 (by decide) ?_
          obtain rfl := Option.some.inj hf
          exact hret _ _ _ _ _ _ dX4_readMedal_60 rfl rfl (⟨hG_T, hG_t, hfr⟩) hP hS
      · have hf := ifp hf c8
        refine lv_iconst (v := 0) X.1 X.2.1 dX4_readMedal_45 (by decide) ?_
        obtain rfl := Option.some.inj hf
        exact hret _ _ _ _ _ _ dX4_readMedal_46 rfl rfl (⟨hG_T, hG_t, hfr⟩) hP hS
  · have hf := ifn hf c3
    refine lv_iconst (v := 0) X.1 X.2.1 dX4_readMedal_12 (by decide) ?_
    obtain rfl := Option.some.inj hf
    exact hret _ _ _ _ _ _ dX4_readMedal_13 rfl rfl (⟨hG_T, hG_t, hfr⟩) hP hS
def bX4_readMedals_2 (ln_T : Int32) (ltr_T : Nat → Int32) (men_t : Int32) (K1 : ((Int32 × Int32 × Int32 × (Nat → Int32) × (Nat → Int32) × (Nat → Int32) × (Nat → Int32))) → Option (Int32 × Int32 × Int32 × (Nat → Int32) × (Nat → Int32) × (Nat → Int32) × (Nat → Int32))) : ((Int32 × Int32 × Int32 × (Nat → Int32) × (Nat → Int32) × (Nat → Int32) × (Nat → Int32))) → Option (Int32 × Int32 × Int32 × (Nat → Int32) × (Nat → Int32) × (Nat → Int32) × (Nat → Int32))
  | (v2_1, plc_T_1, md_t_1, ki_t_1, we_t_1, wo_t_1, wr_t_1) => if 6 ≤ v2_1 then (some (1, plc_T_1, md_t_1, ki_t_1, we_t_1, wo_t_1, wr_t_1)) else ((fX4_readMedal ln_T plc_T_1 ltr_T men_t md_t_1 ki_t_1 we_t_1 wo_t_1 wr_t_1).bind (fun r3 => if r3.1 = 0 then (some (0, r3.2.1, r3.2.2.1, r3.2.2.2.1, r3.2.2.2.2.1, r3.2.2.2.2.2.1, r3.2.2.2.2.2.2)) else (if v2_1 = 5 then (some (1, r3.2.1, r3.2.2.1, r3.2.2.2.1, r3.2.2.2.2.1, r3.2.2.2.2.2.1, r3.2.2.2.2.2.2)) else ((fX4_takes 44 ln_T r3.2.1 ltr_T).bind (fun r6 => if r6.1 = 0 then (some (1, r6.2, r3.2.2.1, r3.2.2.2.1, r3.2.2.2.2.1, r3.2.2.2.2.2.1, r3.2.2.2.2.2.2)) else (nm (v2_1 + 1) (fun x8 => K1 (x8, r6.2, r3.2.2.1, r3.2.2.2.1, r3.2.2.2.2.1, r3.2.2.2.2.2.1, r3.2.2.2.2.2.2))))))))
def fX4_readMedals   (ln_T : Int32) (plc_T : Int32) (ltr_T : Nat → Int32) (men_t : Int32) (md_t : Int32) (ki_t : Nat → Int32) (we_t : Nat → Int32) (wo_t : Nat → Int32) (wr_t : Nat → Int32) : Option (Int32 × Int32 × Int32 × (Nat → Int32) × (Nat → Int32) × (Nat → Int32) × (Nat → Int32)) := lp (bX4_readMedals_2 ln_T ltr_T men_t) FU (0, plc_T, md_t, ki_t, we_t, wo_t, wr_t)
theorem in_X4_readMedals_X4 : ∀ w ∈ wsX40, w ∈ wsX4_readMedals := by decide +kernel
set_option maxHeartbeats 4000000 in
set_option maxRecDepth 100000 in
theorem ct_X4_readMedals {l : Launch} {D : va_G} {g : Nat → ClassId} {qa : Nat → Nat} {E0 : Nat → va_E} {ln_T : Int32} {plc_T : Int32} {ltr_T : Nat → Int32} {men_t : Int32} {md_t : Int32} {day_t : Int32} {drw_t : Int32} {bu_t : Nat → Int32} {st_t : Nat → Int32} {ki_t : Nat → Int32} {we_t : Nat → Int32} {wo_t : Nat → Int32} {wr_t : Nat → Int32} (hG_T : Ta g qa E0 42 ln_T plc_T ltr_T) (hG_t : Mu g qa E0 35 men_t md_t day_t drw_t bu_t st_t ki_t we_t wo_t wr_t) {R : (Int32 × Int32 × Int32 × (Nat → Int32) × (Nat → Int32) × (Nat → Int32) × (Nat → Int32))} (hf : fX4_readMedals ln_T plc_T ltr_T men_t md_t ki_t we_t wo_t wr_t = some R) : MI l yX4_readMedals wsX4_readMedals 4 D g qa E0 [.ref (qa 42), .ref (qa 35)] R.1 (fun E => Ta g qa E 42 ln_T R.2.1 ltr_T ∧ Mu g qa E 35 men_t R.2.2.1 day_t drw_t bu_t st_t R.2.2.2.1 R.2.2.2.2.1 R.2.2.2.2.2.1 R.2.2.2.2.2.2 ∧ ∀ j, (j < 42 ∨ 44 ≤ j) → (j < 35 ∨ 42 ≤ j) → E j = E0 j) := by
  refine MI.mk (by decide) rfl (Nat.le_of_ble_eq_true rfl) ?_
  intro p e s m args below meth c ls Q X hret hP hS hl
  have hl : lv_has ls 3 [(0, .ref (qa 42)), (1, .ref (qa 35))] := hl
  have hfr : ∀ j, (j < 42 ∨ 44 ≤ j) → (j < 35 ∨ 42 ≤ j) → E0 j = E0 j := fun _ _ _ => rfl
  rw [fX4_readMedals] at hf
  refine lv_iconst (v := 0) X.1 X.2.1 dX4_readMedals_0 (by decide) ?_
  refine lv_istore_n (lv' := [(2, .int 0), (0, .ref (qa 42)), (1, .ref (qa 35))]) X.1 X.2.1 dX4_readMedals_1 rfl hl (by decide) rfl (fun ls hl => ?_)
  have lp1 : ∀ (n1 : Nat) (v2_1 : Int32) (plc_T_1 : Int32) (md_t_1 : Int32) (ki_t_1 : Nat → Int32) (we_t_1 : Nat → Int32) (wo_t_1 : Nat → Int32) (wr_t_1 : Nat → Int32) (E : Nat → va_E) (H : Heap) (locs : List Loc) (ls : Array Slot), lp (bX4_readMedals_2 ln_T ltr_T men_t) n1 (v2_1, plc_T_1, md_t_1, ki_t_1, we_t_1, wo_t_1, wr_t_1) = some R → va_P D vwCl (WD qa E) H → va_S (gA qa s.heap.size) s.heap H locs → Ta g qa E 42 ln_T plc_T_1 ltr_T → Mu g qa E 35 men_t md_t_1 day_t drw_t bu_t st_t ki_t_1 we_t_1 wo_t_1 wr_t_1 → (∀ j, (j < 42 ∨ 44 ≤ j) → (j < 35 ∨ 42 ≤ j) → E j = E0 j) → lv_has ls 3 [(0, .ref (qa 42)), (1, .ref (qa 35)), (2, .int v2_1)] → W p l e (rmf 4) s m args below meth c H locs 0 0 Q (F0 m 2 ls []) := by
    intro n1
    induction n1 with
    | zero =>
      intro v2_1 plc_T_1 md_t_1 ki_t_1 we_t_1 wo_t_1 wr_t_1 E H locs ls hf
      exact absurd hf (by intro h; cases h)
    | succ n1 ih1 =>
      intro v2_1 plc_T_1 md_t_1 ki_t_1 we_t_1 wo_t_1 wr_t_1 E H locs ls hf hP hS hG_T hG_t hfr hl
      have hf : bX4_readMedals_2 ln_T ltr_T men_t (lp (bX4_readMedals_2 ln_T ltr_T men_t) n1) (v2_1, plc_T_1, md_t_1, ki_t_1, we_t_1, wo_t_1, wr_t_1) = some R := hf
      rw [bX4_readMedals_2] at hf
      refine lv_iload_n X.1 X.2.1 dX4_readMedals_2 rfl (lv_at hl 2 rfl) ?_
      refine lv_bipush (v := 6) X.1 X.2.1 dX4_readMedals_3 (by decide) ?_
      refine lv_icmp_ge (tgt := 40) X.1 X.2.1 dX4_readMedals_5 (by decide) (fun c2 => ?_) (fun c2 => ?_)
      · have hf := ifp hf c2
        refine lv_iconst (v := 1) X.1 X.2.1 dX4_readMedals_40 (by decide) ?_
        obtain rfl := Option.some.inj hf
        exact hret _ _ _ _ _ _ dX4_readMedals_41 rfl rfl (⟨hG_T, hG_t, hfr⟩) hP hS
      · have hf := ifn hf c2
        refine lv_aload_n X.1 X.2.1 dX4_readMedals_8 rfl (lv_at hl 0 rfl) ?_
        refine lv_aload_n X.1 X.2.1 dX4_readMedals_9 rfl (lv_at hl 1 rfl) ?_
        obtain ⟨r3, hr3, hf⟩ := bd_of hf
        refine x_callVi X hP hS hG_T.1 (by omega) rfl (n := 1) (As := [.ref (qa 35)]) (ct_X4_readMedal hG_T hG_t hr3) gX4_readMedals_X4_readMedal rfl (by decide +kernel) ⟨by decide, by decide⟩ rfl hl.1 rfl (Nat.le_of_ble_eq_true rfl) dX4_readMedals_10 (fun E H locs hp hP hS => ?_)
        obtain ⟨hW_T, hW_t, hk⟩ := hp
        have hG_T := hW_T
        have hG_t := hW_t
        have hfr : ∀ j, (j < 42 ∨ 44 ≤ j) → (j < 35 ∨ 42 ≤ j) → E j = E0 j := fun j o0 o1 => (hk j (by omega) (by omega)).trans (hfr j o0 o1)
        refine lv_if_ne (tgt := 18) X.1 X.2.1 dX4_readMedals_13 (by decide) (fun c4 => ?_) (fun c4 => ?_)
        · have hf := ifn hf c4
          refine lv_iload_n X.1 X.2.1 dX4_readMedals_18 rfl (lv_at hl 2 rfl) ?_
          refine lv_iconst (v := 5) X.1 X.2.1 dX4_readMedals_19 (by decide) ?_
          refine lv_icmp_eq (tgt := 32) X.1 X.2.1 dX4_readMedals_20 (by decide) (fun c5 => ?_) (fun c5 => ?_)
          · have hf := ifp hf c5
            refine lv_iconst (v := 1) X.1 X.2.1 dX4_readMedals_32 (by decide) ?_
            obtain rfl := Option.some.inj hf
            exact hret _ _ _ _ _ _ dX4_readMedals_33 rfl rfl (⟨hG_T, hG_t, hfr⟩) hP hS
          · have hf := ifn hf c5
            refine lv_aload_n X.1 X.2.1 dX4_readMedals_23 rfl (lv_at hl 0 rfl) ?_
            refine lv_bipush (v := 44) X.1 X.2.1 dX4_readMedals_24 (by decide) ?_
            obtain ⟨r6, hr6, hf⟩ := bd_of hf
            refine x_callVi X hP hS hG_T.1 (by omega) rfl (n := 1) (As := [.int 44]) (ct_X4_takes hG_T hr6) gX4_readMedals_X4_takes rfl (by decide +kernel) ⟨by decide, by decide⟩ rfl hl.1 rfl (Nat.le_of_ble_eq_true rfl) dX4_readMedals_26 (fun E H locs hp hP hS => ?_)
            obtain ⟨hW_T, hk⟩ := hp
            have hG_T := hW_T
            have hG_t := Mu_kept hG_t (fun j h8 h9 => hk j (by omega))
            have hfr : ∀ j, (j < 42 ∨ 44 ≤ j) → (j < 35 ∨ 42 ≤ j) → E j = E0 j := fun j o0 o1 => (hk j (by omega)).trans (hfr j o0 o1)
            refine lv_if_ne (tgt := 34) X.1 X.2.1 dX4_readMedals_29 (by decide) (fun c7 => ?_) (fun c7 => ?_)
            · have hf := ifn hf c7
              obtain ⟨x8, ex8, hf⟩ := nm_of hf
              refine lv_iinc (v := x8) (lv' := [(2, .int x8), (0, .ref (qa 42)), (1, .ref (qa 35))]) X.1 X.2.1 dX4_readMedals_34 hl (k := 2) rfl (by rw [ex8]; rfl) (by decide) rfl (fun ls hl => ?_)
              refine lv_goto (tgt := 2) X.1 X.2.1 dX4_readMedals_37 (by decide) ?_
              exact ih1 x8 r6.2 r3.2.2.1 r3.2.2.2.1 r3.2.2.2.2.1 r3.2.2.2.2.2.1 r3.2.2.2.2.2.2 _ _ _ _ hf hP hS hG_T hG_t hfr (lv_sub hl [1, 2, 0] rfl)
            · have hf := ifp hf c7
              refine lv_iconst (v := 1) X.1 X.2.1 dX4_readMedals_32 (by decide) ?_
              obtain rfl := Option.some.inj hf
              exact hret _ _ _ _ _ _ dX4_readMedals_33 rfl rfl (⟨hG_T, hG_t, hfr⟩) hP hS
        · have hf := ifp hf c4
          refine lv_iconst (v := 0) X.1 X.2.1 dX4_readMedals_16 (by decide) ?_
          obtain rfl := Option.some.inj hf
          exact hret _ _ _ _ _ _ dX4_readMedals_17 rfl rfl (⟨hG_T, hG_t, hfr⟩) hP hS
  exact lp1 FU 0 plc_T md_t ki_t we_t wo_t wr_t _ _ _ _ hf hP hS hG_T hG_t hfr (lv_sub hl [1, 2, 0] rfl)
def bX4_readMen_2 (ln_T : Int32) (ltr_T : Nat → Int32) (K1 : ((Int32 × Int32 × Int32 × (Nat → Int32) × (Nat → Int32))) → Option (Int32 × Int32 × Int32 × (Nat → Int32) × (Nat → Int32))) : ((Int32 × Int32 × Int32 × (Nat → Int32) × (Nat → Int32))) → Option (Int32 × Int32 × Int32 × (Nat → Int32) × (Nat → Int32))
  | (v2_1, plc_T_1, men_t_1, bu_t_1, st_t_1) => if 5 ≤ v2_1 then (some (1, plc_T_1, men_t_1, bu_t_1, st_t_1)) else ((fX4_readMan ln_T plc_T_1 ltr_T men_t_1 bu_t_1 st_t_1).bind (fun r3 => if r3.1 = 0 then (some (0, r3.2.1, r3.2.2.1, r3.2.2.2.1, r3.2.2.2.2)) else (if v2_1 = 4 then (some (1, r3.2.1, r3.2.2.1, r3.2.2.2.1, r3.2.2.2.2)) else ((fX4_takes 44 ln_T r3.2.1 ltr_T).bind (fun r6 => if r6.1 = 0 then (some (1, r6.2, r3.2.2.1, r3.2.2.2.1, r3.2.2.2.2)) else (nm (v2_1 + 1) (fun x8 => K1 (x8, r6.2, r3.2.2.1, r3.2.2.2.1, r3.2.2.2.2))))))))
def fX4_readMen   (ln_T : Int32) (plc_T : Int32) (ltr_T : Nat → Int32) (men_t : Int32) (bu_t : Nat → Int32) (st_t : Nat → Int32) : Option (Int32 × Int32 × Int32 × (Nat → Int32) × (Nat → Int32)) := lp (bX4_readMen_2 ln_T ltr_T) FU (0, plc_T, men_t, bu_t, st_t)
theorem in_X4_readMen_X4 : ∀ w ∈ wsX40, w ∈ wsX4_readMen := by decide +kernel
set_option maxHeartbeats 4000000 in
set_option maxRecDepth 100000 in
theorem ct_X4_readMen {l : Launch} {D : va_G} {g : Nat → ClassId} {qa : Nat → Nat} {E0 : Nat → va_E} {ln_T : Int32} {plc_T : Int32} {ltr_T : Nat → Int32} {men_t : Int32} {md_t : Int32} {day_t : Int32} {drw_t : Int32} {bu_t : Nat → Int32} {st_t : Nat → Int32} {ki_t : Nat → Int32} {we_t : Nat → Int32} {wo_t : Nat → Int32} {wr_t : Nat → Int32} (hG_T : Ta g qa E0 42 ln_T plc_T ltr_T) (hG_t : Mu g qa E0 35 men_t md_t day_t drw_t bu_t st_t ki_t we_t wo_t wr_t) {R : (Int32 × Int32 × Int32 × (Nat → Int32) × (Nat → Int32))} (hf : fX4_readMen ln_T plc_T ltr_T men_t bu_t st_t = some R) : MI l yX4_readMen wsX4_readMen 4 D g qa E0 [.ref (qa 42), .ref (qa 35)] R.1 (fun E => Ta g qa E 42 ln_T R.2.1 ltr_T ∧ Mu g qa E 35 R.2.2.1 md_t day_t drw_t R.2.2.2.1 R.2.2.2.2 ki_t we_t wo_t wr_t ∧ ∀ j, (j < 42 ∨ 44 ≤ j) → (j < 35 ∨ 42 ≤ j) → E j = E0 j) := by
  refine MI.mk (by decide) rfl (Nat.le_of_ble_eq_true rfl) ?_
  intro p e s m args below meth c ls Q X hret hP hS hl
  have hl : lv_has ls 3 [(0, .ref (qa 42)), (1, .ref (qa 35))] := hl
  have hfr : ∀ j, (j < 42 ∨ 44 ≤ j) → (j < 35 ∨ 42 ≤ j) → E0 j = E0 j := fun _ _ _ => rfl
  rw [fX4_readMen] at hf
  refine lv_iconst (v := 0) X.1 X.2.1 dX4_readMen_0 (by decide) ?_
  refine lv_istore_n (lv' := [(2, .int 0), (0, .ref (qa 42)), (1, .ref (qa 35))]) X.1 X.2.1 dX4_readMen_1 rfl hl (by decide) rfl (fun ls hl => ?_)
  have lp1 : ∀ (n1 : Nat) (v2_1 : Int32) (plc_T_1 : Int32) (men_t_1 : Int32) (bu_t_1 : Nat → Int32) (st_t_1 : Nat → Int32) (E : Nat → va_E) (H : Heap) (locs : List Loc) (ls : Array Slot), lp (bX4_readMen_2 ln_T ltr_T) n1 (v2_1, plc_T_1, men_t_1, bu_t_1, st_t_1) = some R → va_P D vwCl (WD qa E) H → va_S (gA qa s.heap.size) s.heap H locs → Ta g qa E 42 ln_T plc_T_1 ltr_T → Mu g qa E 35 men_t_1 md_t day_t drw_t bu_t_1 st_t_1 ki_t we_t wo_t wr_t → (∀ j, (j < 42 ∨ 44 ≤ j) → (j < 35 ∨ 42 ≤ j) → E j = E0 j) → lv_has ls 3 [(0, .ref (qa 42)), (1, .ref (qa 35)), (2, .int v2_1)] → W p l e (rmf 4) s m args below meth c H locs 0 0 Q (F0 m 2 ls []) := by
    intro n1
    induction n1 with
    | zero =>
      intro v2_1 plc_T_1 men_t_1 bu_t_1 st_t_1 E H locs ls hf
      exact absurd hf (by intro h; cases h)
    | succ n1 ih1 =>
      intro v2_1 plc_T_1 men_t_1 bu_t_1 st_t_1 E H locs ls hf hP hS hG_T hG_t hfr hl
      have hf : bX4_readMen_2 ln_T ltr_T (lp (bX4_readMen_2 ln_T ltr_T) n1) (v2_1, plc_T_1, men_t_1, bu_t_1, st_t_1) = some R := hf
      rw [bX4_readMen_2] at hf
      refine lv_iload_n X.1 X.2.1 dX4_readMen_2 rfl (lv_at hl 2 rfl) ?_
      refine lv_iconst (v := 5) X.1 X.2.1 dX4_readMen_3 (by decide) ?_
      refine lv_icmp_ge (tgt := 39) X.1 X.2.1 dX4_readMen_4 (by decide) (fun c2 => ?_) (fun c2 => ?_)
      · have hf := ifp hf c2
        refine lv_iconst (v := 1) X.1 X.2.1 dX4_readMen_39 (by decide) ?_
        obtain rfl := Option.some.inj hf
        exact hret _ _ _ _ _ _ dX4_readMen_40 rfl rfl (⟨hG_T, hG_t, hfr⟩) hP hS
      · have hf := ifn hf c2
        refine lv_aload_n X.1 X.2.1 dX4_readMen_7 rfl (lv_at hl 0 rfl) ?_
        refine lv_aload_n X.1 X.2.1 dX4_readMen_8 rfl (lv_at hl 1 rfl) ?_
        obtain ⟨r3, hr3, hf⟩ := bd_of hf
        refine x_callVi X hP hS hG_T.1 (by omega) rfl (n := 1) (As := [.ref (qa 35)]) (ct_X4_readMan hG_T hG_t hr3) gX4_readMen_X4_readMan rfl (by decide +kernel) ⟨by decide, by decide⟩ rfl hl.1 rfl (Nat.le_of_ble_eq_true rfl) dX4_readMen_9 (fun E H locs hp hP hS => ?_)
        obtain ⟨hW_T, hW_t, hk⟩ := hp
        have hG_T := hW_T
        have hG_t := hW_t
        have hfr : ∀ j, (j < 42 ∨ 44 ≤ j) → (j < 35 ∨ 42 ≤ j) → E j = E0 j := fun j o0 o1 => (hk j (by omega) (by omega)).trans (hfr j o0 o1)
        refine lv_if_ne (tgt := 17) X.1 X.2.1 dX4_readMen_12 (by decide) (fun c4 => ?_) (fun c4 => ?_)
        · have hf := ifn hf c4
          refine lv_iload_n X.1 X.2.1 dX4_readMen_17 rfl (lv_at hl 2 rfl) ?_
          refine lv_iconst (v := 4) X.1 X.2.1 dX4_readMen_18 (by decide) ?_
          refine lv_icmp_eq (tgt := 31) X.1 X.2.1 dX4_readMen_19 (by decide) (fun c5 => ?_) (fun c5 => ?_)
          · have hf := ifp hf c5
            refine lv_iconst (v := 1) X.1 X.2.1 dX4_readMen_31 (by decide) ?_
            obtain rfl := Option.some.inj hf
            exact hret _ _ _ _ _ _ dX4_readMen_32 rfl rfl (⟨hG_T, hG_t, hfr⟩) hP hS
          · have hf := ifn hf c5
            refine lv_aload_n X.1 X.2.1 dX4_readMen_22 rfl (lv_at hl 0 rfl) ?_
            refine lv_bipush (v := 44) X.1 X.2.1 dX4_readMen_23 (by decide) ?_
            obtain ⟨r6, hr6, hf⟩ := bd_of hf
            refine x_callVi X hP hS hG_T.1 (by omega) rfl (n := 1) (As := [.int 44]) (ct_X4_takes hG_T hr6) gX4_readMen_X4_takes rfl (by decide +kernel) ⟨by decide, by decide⟩ rfl hl.1 rfl (Nat.le_of_ble_eq_true rfl) dX4_readMen_25 (fun E H locs hp hP hS => ?_)
            obtain ⟨hW_T, hk⟩ := hp
            have hG_T := hW_T
            have hG_t := Mu_kept hG_t (fun j h8 h9 => hk j (by omega))
            have hfr : ∀ j, (j < 42 ∨ 44 ≤ j) → (j < 35 ∨ 42 ≤ j) → E j = E0 j := fun j o0 o1 => (hk j (by omega)).trans (hfr j o0 o1)
            refine lv_if_ne (tgt := 33) X.1 X.2.1 dX4_readMen_28 (by decide) (fun c7 => ?_) (fun c7 => ?_)
            · have hf := ifn hf c7
              obtain ⟨x8, ex8, hf⟩ := nm_of hf
              refine lv_iinc (v := x8) (lv' := [(2, .int x8), (0, .ref (qa 42)), (1, .ref (qa 35))]) X.1 X.2.1 dX4_readMen_33 hl (k := 2) rfl (by rw [ex8]; rfl) (by decide) rfl (fun ls hl => ?_)
              refine lv_goto (tgt := 2) X.1 X.2.1 dX4_readMen_36 (by decide) ?_
              exact ih1 x8 r6.2 r3.2.2.1 r3.2.2.2.1 r3.2.2.2.2 _ _ _ _ hf hP hS hG_T hG_t hfr (lv_sub hl [1, 2, 0] rfl)
            · have hf := ifp hf c7
              refine lv_iconst (v := 1) X.1 X.2.1 dX4_readMen_31 (by decide) ?_
              obtain rfl := Option.some.inj hf
              exact hret _ _ _ _ _ _ dX4_readMen_32 rfl rfl (⟨hG_T, hG_t, hfr⟩) hP hS
        · have hf := ifp hf c4
          refine lv_iconst (v := 0) X.1 X.2.1 dX4_readMen_15 (by decide) ?_
          obtain rfl := Option.some.inj hf
          exact hret _ _ _ _ _ _ dX4_readMen_16 rfl rfl (⟨hG_T, hG_t, hfr⟩) hP hS
  exact lp1 FU 0 plc_T men_t bu_t st_t _ _ _ _ hf hP hS hG_T hG_t hfr (lv_sub hl [1, 2, 0] rfl)
def fX4_readState   (ln_T : Int32) (ltr_T : Nat → Int32) (men_t : Int32) (md_t : Int32) (bu_t : Nat → Int32) (st_t : Nat → Int32) (ki_t : Nat → Int32) (we_t : Nat → Int32) (wo_t : Nat → Int32) (wr_t : Nat → Int32) : Option (Int32 × Int32 × Int32 × Int32 × (Nat → Int32) × (Nat → Int32) × (Nat → Int32) × (Nat → Int32) × (Nat → Int32) × (Nat → Int32)) := (fX4_readMen ln_T 0 ltr_T men_t bu_t st_t).bind (fun r1 => if r1.1 = 0 then (some (0, r1.2.1, r1.2.2.1, md_t, r1.2.2.2.1, r1.2.2.2.2, ki_t, we_t, wo_t, wr_t)) else ((fX4_takes 59 ln_T r1.2.1 ltr_T).bind (fun r3 => if r3.1 = 0 then ((fX4_nextLetter ln_T r3.2 ltr_T).bind (fun r5 => if r5.1 = 0 then (some (1, r5.2, r1.2.2.1, md_t, r1.2.2.2.1, r1.2.2.2.2, ki_t, we_t, wo_t, wr_t)) else (some (0, r5.2, r1.2.2.1, md_t, r1.2.2.2.1, r1.2.2.2.2, ki_t, we_t, wo_t, wr_t)))) else ((fX4_readMedals ln_T r3.2 ltr_T r1.2.2.1 md_t ki_t we_t wo_t wr_t).bind (fun r7 => if r7.1 = 0 then (some (0, r7.2.1, r1.2.2.1, r7.2.2.1, r1.2.2.2.1, r1.2.2.2.2, r7.2.2.2.1, r7.2.2.2.2.1, r7.2.2.2.2.2.1, r7.2.2.2.2.2.2)) else ((fX4_nextLetter ln_T r7.2.1 ltr_T).bind (fun r9 => if r9.1 = 0 then (some (1, r9.2, r1.2.2.1, r7.2.2.1, r1.2.2.2.1, r1.2.2.2.2, r7.2.2.2.1, r7.2.2.2.2.1, r7.2.2.2.2.2.1, r7.2.2.2.2.2.2)) else (some (0, r9.2, r1.2.2.1, r7.2.2.1, r1.2.2.2.1, r1.2.2.2.2, r7.2.2.2.1, r7.2.2.2.2.1, r7.2.2.2.2.2.1, r7.2.2.2.2.2.2)))))))))
theorem in_X4_readState_X4 : ∀ w ∈ wsX40, w ∈ wsX4_readState := by decide +kernel
set_option maxHeartbeats 4000000 in
set_option maxRecDepth 100000 in
theorem ct_X4_readState {l : Launch} {D : va_G} {g : Nat → ClassId} {qa : Nat → Nat} {E0 : Nat → va_E} {ln_T : Int32} {plc_T : Int32} {ltr_T : Nat → Int32} {men_t : Int32} {md_t : Int32} {day_t : Int32} {drw_t : Int32} {bu_t : Nat → Int32} {st_t : Nat → Int32} {ki_t : Nat → Int32} {we_t : Nat → Int32} {wo_t : Nat → Int32} {wr_t : Nat → Int32} (hG_T : Ta g qa E0 42 ln_T plc_T ltr_T) (hG_t : Mu g qa E0 35 men_t md_t day_t drw_t bu_t st_t ki_t we_t wo_t wr_t) {R : (Int32 × Int32 × Int32 × Int32 × (Nat → Int32) × (Nat → Int32) × (Nat → Int32) × (Nat → Int32) × (Nat → Int32) × (Nat → Int32))} (hf : fX4_readState ln_T ltr_T men_t md_t bu_t st_t ki_t we_t wo_t wr_t = some R) : MI l yX4_readState wsX4_readState 5 D g qa E0 [.ref (qa 42), .ref (qa 35)] R.1 (fun E => Ta g qa E 42 ln_T R.2.1 ltr_T ∧ Mu g qa E 35 R.2.2.1 R.2.2.2.1 day_t drw_t R.2.2.2.2.1 R.2.2.2.2.2.1 R.2.2.2.2.2.2.1 R.2.2.2.2.2.2.2.1 R.2.2.2.2.2.2.2.2.1 R.2.2.2.2.2.2.2.2.2 ∧ ∀ j, (j < 42 ∨ 44 ≤ j) → (j < 35 ∨ 42 ≤ j) → E j = E0 j) := by
  refine MI.mk (by decide) rfl (Nat.le_of_ble_eq_true rfl) ?_
  intro p e s m args below meth c ls Q X hret hP hS hl
  have hl : lv_has ls 2 [(0, .ref (qa 42)), (1, .ref (qa 35))] := hl
  have hfr : ∀ j, (j < 42 ∨ 44 ≤ j) → (j < 35 ∨ 42 ≤ j) → E0 j = E0 j := fun _ _ _ => rfl
  rw [fX4_readState] at hf
  refine lv_aload_n X.1 X.2.1 dX4_readState_0 rfl (lv_at hl 0 rfl) ?_
  refine lv_iconst (v := 0) X.1 X.2.1 dX4_readState_1 (by decide) ?_
  refine x_put (ty := .int) X hP hS hG_T.1 (by omega) rfl in_X4_readState_X4 tyX4 tyX4_ok nmX4 2 (by decide) (by decide +kernel) rfl rfl (by decide +kernel) rfl rfl (Nat.le_of_ble_eq_true rfl) dX4_readState_2 (fun E H locs h1 hk hP hS => ?_)
  have hG_T := Ta_set_0 hG_T h1 hk
  have hG_t := Mu_kept hG_t (fun j h8 h9 => hk j (by omega))
  have hfr : ∀ j, (j < 42 ∨ 44 ≤ j) → (j < 35 ∨ 42 ≤ j) → E j = E0 j := fun j o0 o1 => (hk j (by omega)).trans (hfr j o0 o1)
  refine lv_aload_n X.1 X.2.1 dX4_readState_5 rfl (lv_at hl 0 rfl) ?_
  refine lv_aload_n X.1 X.2.1 dX4_readState_6 rfl (lv_at hl 1 rfl) ?_
  obtain ⟨r1, hr1, hf⟩ := bd_of hf
  refine x_callVi X hP hS hG_T.1 (by omega) rfl (n := 1) (As := [.ref (qa 35)]) (ct_X4_readMen hG_T hG_t hr1) gX4_readState_X4_readMen rfl (by decide +kernel) ⟨by decide, by decide⟩ rfl hl.1 rfl (Nat.le_of_ble_eq_true rfl) dX4_readState_7 (fun E H locs hp hP hS => ?_)
  obtain ⟨hW_T, hW_t, hk⟩ := hp
  have hG_T := hW_T
  have hG_t := hW_t
  have hfr : ∀ j, (j < 42 ∨ 44 ≤ j) → (j < 35 ∨ 42 ≤ j) → E j = E0 j := fun j o0 o1 => (hk j (by omega) (by omega)).trans (hfr j o0 o1)
  refine lv_if_ne (tgt := 15) X.1 X.2.1 dX4_readState_10 (by decide) (fun c2 => ?_) (fun c2 => ?_)
  · have hf := ifn hf c2
    refine lv_aload_n X.1 X.2.1 dX4_readState_15 rfl (lv_at hl 0 rfl) ?_
    refine lv_bipush (v := 59) X.1 X.2.1 dX4_readState_16 (by decide) ?_
    obtain ⟨r3, hr3, hf⟩ := bd_of hf
    refine x_callVi X hP hS hG_T.1 (by omega) rfl (n := 1) (As := [.int 59]) (ct_X4_takes hG_T hr3) gX4_readState_X4_takes rfl (by decide +kernel) ⟨by decide, by decide⟩ rfl hl.1 rfl (Nat.le_of_ble_eq_true rfl) dX4_readState_18 (fun E H locs hp hP hS => ?_)
    obtain ⟨hW_T, hk⟩ := hp
    have hG_T := hW_T
    have hG_t := Mu_kept hG_t (fun j h8 h9 => hk j (by omega))
    have hfr : ∀ j, (j < 42 ∨ 44 ≤ j) → (j < 35 ∨ 42 ≤ j) → E j = E0 j := fun j o0 o1 => (hk j (by omega)).trans (hfr j o0 o1)
    refine lv_if_eq (tgt := 34) X.1 X.2.1 dX4_readState_21 (by decide) (fun c4 => ?_) (fun c4 => ?_)
    · have hf := ifp hf c4
      refine lv_aload_n X.1 X.2.1 dX4_readState_34 rfl (lv_at hl 0 rfl) ?_
      obtain ⟨r5, hr5, hf⟩ := bd_of hf
      refine x_callVi X hP hS hG_T.1 (by omega) rfl (n := 0) (As := []) (ct_X4_nextLetter hG_T hr5) gX4_readState_X4_nextLetter rfl (by decide +kernel) ⟨by decide, by decide⟩ rfl hl.1 rfl (Nat.le_of_ble_eq_true rfl) dX4_readState_35 (fun E H locs hp hP hS => ?_)
      obtain ⟨hW_T, hk⟩ := hp
      have hG_T := hW_T
      have hG_t := Mu_kept hG_t (fun j h8 h9 => hk j (by omega))
      have hfr : ∀ j, (j < 42 ∨ 44 ≤ j) → (j < 35 ∨ 42 ≤ j) → E j = E0 j := fun j o0 o1 => (hk j (by omega)).trans (hfr j o0 o1)
      refine lv_if_ne (tgt := 45) X.1 X.2.1 dX4_readState_38 (by decide) (fun c6 => ?_) (fun c6 => ?_)
      · have hf := ifn hf c6
        refine lv_iconst (v := 0) X.1 X.2.1 dX4_readState_45 (by decide) ?_
        obtain rfl := Option.some.inj hf
        exact hret _ _ _ _ _ _ dX4_readState_46 rfl rfl (⟨hG_T, hG_t, hfr⟩) hP hS
      · have hf := ifp hf c6
        refine lv_iconst (v := 1) X.1 X.2.1 dX4_readState_41 (by decide) ?_
        refine lv_goto (tgt := 46) X.1 X.2.1 dX4_readState_42 (by decide) ?_
        obtain rfl := Option.some.inj hf
        exact hret _ _ _ _ _ _ dX4_readState_46 rfl rfl (⟨hG_T, hG_t, hfr⟩) hP hS
    · have hf := ifn hf c4
      refine lv_aload_n X.1 X.2.1 dX4_readState_24 rfl (lv_at hl 0 rfl) ?_
      refine lv_aload_n X.1 X.2.1 dX4_readState_25 rfl (lv_at hl 1 rfl) ?_
      obtain ⟨r7, hr7, hf⟩ := bd_of hf
      refine x_callVi X hP hS hG_T.1 (by omega) rfl (n := 1) (As := [.ref (qa 35)]) (ct_X4_readMedals hG_T hG_t hr7) gX4_readState_X4_readMedals rfl (by decide +kernel) ⟨by decide, by decide⟩ rfl hl.1 rfl (Nat.le_of_ble_eq_true rfl) dX4_readState_26 (fun E H locs hp hP hS => ?_)
      obtain ⟨hW_T, hW_t, hk⟩ := hp
      have hG_T := hW_T
      have hG_t := hW_t
      have hfr : ∀ j, (j < 42 ∨ 44 ≤ j) → (j < 35 ∨ 42 ≤ j) → E j = E0 j := fun j o0 o1 => (hk j (by omega) (by omega)).trans (hfr j o0 o1)
      refine lv_if_ne (tgt := 34) X.1 X.2.1 dX4_readState_29 (by decide) (fun c8 => ?_) (fun c8 => ?_)
      · have hf := ifn hf c8
        refine lv_aload_n X.1 X.2.1 dX4_readState_34 rfl (lv_at hl 0 rfl) ?_
        obtain ⟨r9, hr9, hf⟩ := bd_of hf
        refine x_callVi X hP hS hG_T.1 (by omega) rfl (n := 0) (As := []) (ct_X4_nextLetter hG_T hr9) gX4_readState_X4_nextLetter rfl (by decide +kernel) ⟨by decide, by decide⟩ rfl hl.1 rfl (Nat.le_of_ble_eq_true rfl) dX4_readState_35 (fun E H locs hp hP hS => ?_)
        obtain ⟨hW_T, hk⟩ := hp
        have hG_T := hW_T
        have hG_t := Mu_kept hG_t (fun j h8 h9 => hk j (by omega))
        have hfr : ∀ j, (j < 42 ∨ 44 ≤ j) → (j < 35 ∨ 42 ≤ j) → E j = E0 j := fun j o0 o1 => (hk j (by omega)).trans (hfr j o0 o1)
        refine lv_if_ne (tgt := 45) X.1 X.2.1 dX4_readState_38 (by decide) (fun c10 => ?_) (fun c10 => ?_)
        · have hf := ifn hf c10
          refine lv_iconst (v := 0) X.1 X.2.1 dX4_readState_45 (by decide) ?_
          obtain rfl := Option.some.inj hf
          exact hret _ _ _ _ _ _ dX4_readState_46 rfl rfl (⟨hG_T, hG_t, hfr⟩) hP hS
        · have hf := ifp hf c10
          refine lv_iconst (v := 1) X.1 X.2.1 dX4_readState_41 (by decide) ?_
          refine lv_goto (tgt := 46) X.1 X.2.1 dX4_readState_42 (by decide) ?_
          obtain rfl := Option.some.inj hf
          exact hret _ _ _ _ _ _ dX4_readState_46 rfl rfl (⟨hG_T, hG_t, hfr⟩) hP hS
      · have hf := ifp hf c8
        refine lv_iconst (v := 0) X.1 X.2.1 dX4_readState_32 (by decide) ?_
        obtain rfl := Option.some.inj hf
        exact hret _ _ _ _ _ _ dX4_readState_33 rfl rfl (⟨hG_T, hG_t, hfr⟩) hP hS
  · have hf := ifp hf c2
    refine lv_iconst (v := 0) X.1 X.2.1 dX4_readState_13 (by decide) ?_
    obtain rfl := Option.some.inj hf
    exact hret _ _ _ _ _ _ dX4_readState_14 rfl rfl (⟨hG_T, hG_t, hfr⟩) hP hS
def bX2_take_2 (kn_o : Int32) (nx_o : Int32) (ke_o : Nat → Nat → Int32) (K1 : ((Int32 × (Nat → Nat → Int32))) → Option (Int32 × Int32 × (Nat → Nat → Int32))) : ((Int32 × (Nat → Nat → Int32))) → Option (Int32 × Int32 × (Nat → Nat → Int32))
  | (v2_1, ke_p_1) => if 8 ≤ v2_1 then (some (kn_o, nx_o, ke_p_1)) else (gin v2_1 8 (gin v2_1 8 (gcp 0 0 19 19 19 (nm (v2_1 + 1) (fun x8 => K1 (x8, va_up ke_p_1 (Int32.toNatClampNeg v2_1) (va_cpy (ke_o (Int32.toNatClampNeg v2_1)) (ke_p_1 (Int32.toNatClampNeg v2_1)) (Int32.toNatClampNeg 0) (Int32.toNatClampNeg 0) (Int32.toNatClampNeg 19))))))))
def fX2_take   (ke_p : Nat → Nat → Int32) (kn_o : Int32) (nx_o : Int32) (ke_o : Nat → Nat → Int32) : Option (Int32 × Int32 × (Nat → Nat → Int32)) := lp (bX2_take_2 kn_o nx_o ke_o) FU (0, ke_p)
theorem in_X2_take_X2 : ∀ w ∈ wsX20, w ∈ wsX2_take := by decide +kernel
set_option maxHeartbeats 4000000 in
set_option maxRecDepth 100000 in
theorem ct_X2_take {l : Launch} {D : va_G} {g : Nat → ClassId} {qa : Nat → Nat} {E0 : Nat → va_E} {b : Nat} {b2 : Nat} {kn_p : Int32} {nx_p : Int32} {ke_p : Nat → Nat → Int32} {kn_o : Int32} {nx_o : Int32} {ke_o : Nat → Nat → Int32} (hb_p : b + 10 ≤ 74) (hG_p : Pa g qa E0 b kn_p nx_p ke_p) (hb_o : b2 + 10 ≤ 74) (hG_o : Pa g qa E0 b2 kn_o nx_o ke_o) (hx0 : b + 10 ≤ b2 ∨ b2 + 10 ≤ b) {R : (Int32 × Int32 × (Nat → Nat → Int32))} (hf : fX2_take ke_p kn_o nx_o ke_o = some R) : MV l yX2_take wsX2_take 1 D g qa E0 [.ref (qa b), .ref (qa b2)] (fun E => Pa g qa E b R.1 R.2.1 R.2.2 ∧ ∀ j, (j < b ∨ b + 10 ≤ j) → E j = E0 j) := by
  refine MV.mk (by decide) rfl (Nat.le_of_ble_eq_true rfl) ?_
  intro p e s m args below meth c ls Q X hret hP hS hl
  have hl : lv_has ls 3 [(0, .ref (qa b)), (1, .ref (qa b2))] := hl
  have hfr : ∀ j, (j < b ∨ b + 10 ≤ j) → E0 j = E0 j := fun _ _ => rfl
  rw [fX2_take] at hf
  refine lv_iconst (v := 0) X.1 X.2.1 dX2_take_0 (by decide) ?_
  refine lv_istore_n (lv' := [(2, .int 0), (0, .ref (qa b)), (1, .ref (qa b2))]) X.1 X.2.1 dX2_take_1 rfl hl (by decide) rfl (fun ls hl => ?_)
  have lp1 : ∀ (n1 : Nat) (v2_1 : Int32) (ke_p_1 : Nat → Nat → Int32) (E : Nat → va_E) (H : Heap) (locs : List Loc) (ls : Array Slot), lp (bX2_take_2 kn_o nx_o ke_o) n1 (v2_1, ke_p_1) = some R → va_P D vwCl (WD qa E) H → va_S (gA qa s.heap.size) s.heap H locs → Pa g qa E b kn_p nx_p ke_p_1 → Pa g qa E b2 kn_o nx_o ke_o → (∀ j, (j < b ∨ b + 10 ≤ j) → E j = E0 j) → lv_has ls 3 [(0, .ref (qa b)), (1, .ref (qa b2)), (2, .int v2_1)] → W p l e (rmf 1) s m args below meth c H locs 0 0 Q (F0 m 2 ls []) := by
    intro n1
    induction n1 with
    | zero =>
      intro v2_1 ke_p_1 E H locs ls hf
      exact absurd hf (by intro h; cases h)
    | succ n1 ih1 =>
      intro v2_1 ke_p_1 E H locs ls hf hP hS hG_p hG_o hfr hl
      have hf : bX2_take_2 kn_o nx_o ke_o (lp (bX2_take_2 kn_o nx_o ke_o) n1) (v2_1, ke_p_1) = some R := hf
      rw [bX2_take_2] at hf
      refine lv_iload_n X.1 X.2.1 dX2_take_2 rfl (lv_at hl 2 rfl) ?_
      refine lv_bipush (v := 8) X.1 X.2.1 dX2_take_3 (by decide) ?_
      refine lv_icmp_ge (tgt := 33) X.1 X.2.1 dX2_take_5 (by decide) (fun c2 => ?_) (fun c2 => ?_)
      · have hf := ifp hf c2
        refine lv_aload_n X.1 X.2.1 dX2_take_33 rfl (lv_at hl 0 rfl) ?_
        refine lv_aload_n X.1 X.2.1 dX2_take_34 rfl (lv_at hl 1 rfl) ?_
        refine x_get X hP hG_o.1 (by omega) rfl in_X2_take_X2 1 (by decide) (by decide +kernel) rfl rfl dX2_take_35 ?_
        refine x_put (ty := .int) X hP hS hG_p.1 (by omega) rfl in_X2_take_X2 tyX2 tyX2_ok nmX2 1 (by decide) (by decide +kernel) rfl rfl (by decide +kernel) rfl rfl (Nat.le_of_ble_eq_true rfl) dX2_take_38 (fun E H locs h1 hk hP hS => ?_)
        have hG_p := Pa_set_0 hG_p h1 hk
        have hG_o := Pa_kept hG_o (fun j h8 h9 => hk j (by omega))
        have hfr : ∀ j, (j < b ∨ b + 10 ≤ j) → E j = E0 j := fun j o0 => (hk j (by omega)).trans (hfr j o0)
        refine lv_aload_n X.1 X.2.1 dX2_take_41 rfl (lv_at hl 0 rfl) ?_
        refine lv_aload_n X.1 X.2.1 dX2_take_42 rfl (lv_at hl 1 rfl) ?_
        refine x_get X hP hG_o.1 (by omega) rfl in_X2_take_X2 2 (by decide) (by decide +kernel) rfl rfl dX2_take_43 ?_
        refine x_put (ty := .int) X hP hS hG_p.1 (by omega) rfl in_X2_take_X2 tyX2 tyX2_ok nmX2 2 (by decide) (by decide +kernel) rfl rfl (by decide +kernel) rfl rfl (Nat.le_of_ble_eq_true rfl) dX2_take_46 (fun E H locs h1 hk hP hS => ?_)
        have hG_p := Pa_set_0 hG_p h1 hk
        have hG_o := Pa_kept hG_o (fun j h8 h9 => hk j (by omega))
        have hfr : ∀ j, (j < b ∨ b + 10 ≤ j) → E j = E0 j := fun j o0 => (hk j (by omega)).trans (hfr j o0)
        obtain rfl := Option.some.inj hf
        exact hret _ _ _ _ _ dX2_take_49 (⟨hG_p, hfr⟩) hP hS
      · have hf := ifn hf c2
        refine lv_aload_n X.1 X.2.1 dX2_take_8 rfl (lv_at hl 1 rfl) ?_
        refine x_get X hP hG_o.1 (by omega) rfl in_X2_take_X2 0 (by decide) (by decide +kernel) rfl rfl dX2_take_9 ?_
        refine lv_iload_n X.1 X.2.1 dX2_take_12 rfl (lv_at hl 2 rfl) ?_
        obtain ⟨hi3, hf⟩ := gin_of hf
        have hj4 := in_lt hi3
        refine x_aald X hP 3 rfl rfl hG_o.2.1 (by omega) hi3 dX2_take_13 ?_
        refine lv_iconst (v := 0) X.1 X.2.1 dX2_take_14 (by decide) ?_
        refine lv_aload_n X.1 X.2.1 dX2_take_15 rfl (lv_at hl 0 rfl) ?_
        refine x_get X hP hG_p.1 (by omega) rfl in_X2_take_X2 0 (by decide) (by decide +kernel) rfl rfl dX2_take_16 ?_
        refine lv_iload_n X.1 X.2.1 dX2_take_19 rfl (lv_at hl 2 rfl) ?_
        obtain ⟨hi5, hf⟩ := gin_of hf
        have hj6 := in_lt hi5
        refine x_aald X hP 3 rfl rfl hG_p.2.1 (by omega) hi5 dX2_take_20 ?_
        refine lv_iconst (v := 0) X.1 X.2.1 dX2_take_21 (by decide) ?_
        refine lv_bipush (v := 19) X.1 X.2.1 dX2_take_22 (by decide) ?_
        obtain ⟨hy7, hf⟩ := gcp_of hf
        refine x_copyi X hP hS (hG_o.2.2 _ hj4) (by omega) (hG_p.2.2 _ hj6) (by omega) (index := 29) (by decide +kernel) (by decide +kernel) (by decide +kernel) (by decide +kernel) hl.1 hy7.1 hy7.2.1 hy7.2.2.1 hy7.2.2.2.1 hy7.2.2.2.2 (by decide) (Nat.le_of_ble_eq_true rfl) dX2_take_24 (fun E H locs h1 hk hP hS => ?_)
        have hG_p := Pa_set_2 hG_p hj6 h1 hk
        have hG_o := Pa_kept hG_o (fun j h8 h9 => hk j (by omega))
        have hfr : ∀ j, (j < b ∨ b + 10 ≤ j) → E j = E0 j := fun j o0 => (hk j (by omega)).trans (hfr j o0)
        obtain ⟨x8, ex8, hf⟩ := nm_of hf
        refine lv_iinc (v := x8) (lv' := [(2, .int x8), (0, .ref (qa b)), (1, .ref (qa b2))]) X.1 X.2.1 dX2_take_27 hl (k := 2) rfl (by rw [ex8]; rfl) (by decide) rfl (fun ls hl => ?_)
        refine lv_goto (tgt := 2) X.1 X.2.1 dX2_take_30 (by decide) ?_
        exact ih1 x8 (va_up ke_p_1 (Int32.toNatClampNeg v2_1) (va_cpy (ke_o (Int32.toNatClampNeg v2_1)) (ke_p_1 (Int32.toNatClampNeg v2_1)) (Int32.toNatClampNeg 0) (Int32.toNatClampNeg 0) (Int32.toNatClampNeg 19))) _ _ _ _ hf hP hS hG_p hG_o hfr (lv_sub hl [1, 2, 0] rfl)
  exact lp1 FU 0 ke_p _ _ _ _ hf hP hS hG_p hG_o hfr (lv_sub hl [1, 2, 0] rfl)
