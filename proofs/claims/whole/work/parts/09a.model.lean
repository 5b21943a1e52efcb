theorem dX6_in_0 : decode cX6_in 0 = .ok (.iload_n 0, 1) := by decide +kernel
theorem dX6_in_1 : decode cX6_in 1 = .ok (.iload_n 1, 1) := by decide +kernel
theorem dX6_in_2 : decode cX6_in 2 = .ok (.if_icmp .lt 12, 3) := by decide +kernel
theorem dX6_in_5 : decode cX6_in 5 = .ok (.iload_n 0, 1) := by decide +kernel
theorem dX6_in_6 : decode cX6_in 6 = .ok (.iload_n 2, 1) := by decide +kernel
theorem dX6_in_7 : decode cX6_in 7 = .ok (.if_icmp .gt 7, 3) := by decide +kernel
theorem dX6_in_10 : decode cX6_in 10 = .ok (.iconst 1, 1) := by decide +kernel
theorem dX6_in_11 : decode cX6_in 11 = .ok (.goto 4, 3) := by decide +kernel
theorem dX6_in_14 : decode cX6_in 14 = .ok (.iconst 0, 1) := by decide +kernel
theorem dX6_in_15 : decode cX6_in 15 = .ok (.ireturn, 1) := by decide +kernel
theorem dX6_bits_0 : decode cX6_bits 0 = .ok (.iconst 0, 1) := by decide +kernel
theorem dX6_bits_1 : decode cX6_bits 1 = .ok (.istore_n 1, 1) := by decide +kernel
theorem dX6_bits_2 : decode cX6_bits 2 = .ok (.iconst 0, 1) := by decide +kernel
theorem dX6_bits_3 : decode cX6_bits 3 = .ok (.istore_n 2, 1) := by decide +kernel
theorem dX6_bits_4 : decode cX6_bits 4 = .ok (.iload_n 2, 1) := by decide +kernel
theorem dX6_bits_5 : decode cX6_bits 5 = .ok (.bipush 6, 2) := by decide +kernel
theorem dX6_bits_7 : decode cX6_bits 7 = .ok (.if_icmp .ge 17, 3) := by decide +kernel
theorem dX6_bits_10 : decode cX6_bits 10 = .ok (.iload_n 1, 1) := by decide +kernel
theorem dX6_bits_11 : decode cX6_bits 11 = .ok (.iload_n 0, 1) := by decide +kernel
theorem dX6_bits_12 : decode cX6_bits 12 = .ok (.iload_n 2, 1) := by decide +kernel
theorem dX6_bits_13 : decode cX6_bits 13 = .ok (.ishr, 1) := by decide +kernel
theorem dX6_bits_14 : decode cX6_bits 14 = .ok (.iconst 1, 1) := by decide +kernel
theorem dX6_bits_15 : decode cX6_bits 15 = .ok (.iand, 1) := by decide +kernel
theorem dX6_bits_16 : decode cX6_bits 16 = .ok (.iadd, 1) := by decide +kernel
theorem dX6_bits_17 : decode cX6_bits 17 = .ok (.istore_n 1, 1) := by decide +kernel
theorem dX6_bits_18 : decode cX6_bits 18 = .ok (.iinc 2 1, 3) := by decide +kernel
theorem dX6_bits_21 : decode cX6_bits 21 = .ok (.goto (-17), 3) := by decide +kernel
theorem dX6_bits_24 : decode cX6_bits 24 = .ok (.iload_n 1, 1) := by decide +kernel
theorem dX6_bits_25 : decode cX6_bits 25 = .ok (.ireturn, 1) := by decide +kernel
theorem dX6_bring_0 : decode cX6_bring 0 = .ok (.iconst 0, 1) := by decide +kernel
theorem dX6_bring_1 : decode cX6_bring 1 = .ok (.istore 5, 2) := by decide +kernel
theorem dX6_bring_3 : decode cX6_bring 3 = .ok (.iload 5, 2) := by decide +kernel
theorem dX6_bring_5 : decode cX6_bring 5 = .ok (.iload 4, 2) := by decide +kernel
theorem dX6_bring_7 : decode cX6_bring 7 = .ok (.if_icmp .ge 21, 3) := by decide +kernel
theorem dX6_bring_10 : decode cX6_bring 10 = .ok (.aload_n 2, 1) := by decide +kernel
theorem dX6_bring_11 : decode cX6_bring 11 = .ok (.iload_n 3, 1) := by decide +kernel
theorem dX6_bring_12 : decode cX6_bring 12 = .ok (.iload 5, 2) := by decide +kernel
theorem dX6_bring_14 : decode cX6_bring 14 = .ok (.iadd, 1) := by decide +kernel
theorem dX6_bring_15 : decode cX6_bring 15 = .ok (.aload_n 0, 1) := by decide +kernel
theorem dX6_bring_16 : decode cX6_bring 16 = .ok (.iload_n 1, 1) := by decide +kernel
theorem dX6_bring_17 : decode cX6_bring 17 = .ok (.iload 5, 2) := by decide +kernel
theorem dX6_bring_19 : decode cX6_bring 19 = .ok (.iadd, 1) := by decide +kernel
theorem dX6_bring_20 : decode cX6_bring 20 = .ok (.iaload, 1) := by decide +kernel
theorem dX6_bring_21 : decode cX6_bring 21 = .ok (.iastore, 1) := by decide +kernel
theorem dX6_bring_22 : decode cX6_bring 22 = .ok (.iinc 5 1, 3) := by decide +kernel
theorem dX6_bring_25 : decode cX6_bring 25 = .ok (.goto (-22), 3) := by decide +kernel
theorem dX6_bring_28 : decode cX6_bring 28 = .ok (.return_, 1) := by decide +kernel
set_option maxRecDepth 20000 in
theorem ggX6_isMan_X6_in : GoodIn wsX6_isMan wsX6_in := goodIn_r _ [5] (by decide +kernel) (by decide +kernel)
set_option maxRecDepth 20000 in
theorem gX6_isMan_X6_in : GoodIn wsX6_isMan (va_wsS RX6 38 yX6_in wsX6_in) := goodIn_app (goodIn_of _ (by decide +kernel)) ggX6_isMan_X6_in
theorem dX6_isMan_0 : decode cX6_isMan 0 = .ok (.iload_n 1, 1) := by decide +kernel
theorem dX6_isMan_1 : decode cX6_isMan 1 = .ok (.iconst 0, 1) := by decide +kernel
theorem dX6_isMan_2 : decode cX6_isMan 2 = .ok (.aload_n 0, 1) := by decide +kernel
theorem dX6_isMan_3 : decode cX6_isMan 3 = .ok (.getfield 23, 3) := by decide +kernel
theorem dX6_isMan_6 : decode cX6_isMan 6 = .ok (.bipush 19, 2) := by decide +kernel
theorem dX6_isMan_8 : decode cX6_isMan 8 = .ok (.iaload, 1) := by decide +kernel
theorem dX6_isMan_9 : decode cX6_isMan 9 = .ok (.iconst 1, 1) := by decide +kernel
theorem dX6_isMan_10 : decode cX6_isMan 10 = .ok (.isub, 1) := by decide +kernel
theorem dX6_isMan_11 : decode cX6_isMan 11 = .ok (.invokestatic 38, 3) := by decide +kernel
theorem dX6_isMan_14 : decode cX6_isMan 14 = .ok (.ireturn, 1) := by decide +kernel
set_option maxRecDepth 20000 in
theorem ggX6_isMedal_X6_in : GoodIn wsX6_isMedal wsX6_in := goodIn_r _ [5] (by decide +kernel) (by decide +kernel)
set_option maxRecDepth 20000 in
theorem gX6_isMedal_X6_in : GoodIn wsX6_isMedal (va_wsS RX6 38 yX6_in wsX6_in) := goodIn_app (goodIn_of _ (by decide +kernel)) ggX6_isMedal_X6_in
theorem dX6_isMedal_0 : decode cX6_isMedal 0 = .ok (.iload_n 1, 1) := by decide +kernel
theorem dX6_isMedal_1 : decode cX6_isMedal 1 = .ok (.iconst 0, 1) := by decide +kernel
theorem dX6_isMedal_2 : decode cX6_isMedal 2 = .ok (.aload_n 0, 1) := by decide +kernel
theorem dX6_isMedal_3 : decode cX6_isMedal 3 = .ok (.getfield 23, 3) := by decide +kernel
theorem dX6_isMedal_6 : decode cX6_isMedal 6 = .ok (.bipush 25, 2) := by decide +kernel
theorem dX6_isMedal_8 : decode cX6_isMedal 8 = .ok (.iaload, 1) := by decide +kernel
theorem dX6_isMedal_9 : decode cX6_isMedal 9 = .ok (.iconst 1, 1) := by decide +kernel
theorem dX6_isMedal_10 : decode cX6_isMedal 10 = .ok (.isub, 1) := by decide +kernel
theorem dX6_isMedal_11 : decode cX6_isMedal 11 = .ok (.invokestatic 38, 3) := by decide +kernel
theorem dX6_isMedal_14 : decode cX6_isMedal 14 = .ok (.ireturn, 1) := by decide +kernel
theorem dX6_wornBy_0 : decode cX6_wornBy 0 = .ok (.iconst 0, 1) := by decide +kernel
theorem dX6_wornBy_1 : decode cX6_wornBy 1 = .ok (.istore_n 2, 1) := by decide +kernel
theorem dX6_wornBy_2 : decode cX6_wornBy 2 = .ok (.iconst 0, 1) := by decide +kernel
theorem dX6_wornBy_3 : decode cX6_wornBy 3 = .ok (.istore_n 3, 1) := by decide +kernel
theorem dX6_wornBy_4 : decode cX6_wornBy 4 = .ok (.iload_n 3, 1) := by decide +kernel
theorem dX6_wornBy_5 : decode cX6_wornBy 5 = .ok (.aload_n 0, 1) := by decide +kernel
theorem dX6_wornBy_6 : decode cX6_wornBy 6 = .ok (.bipush 25, 2) := by decide +kernel
theorem dX6_wornBy_8 : decode cX6_wornBy 8 = .ok (.iaload, 1) := by decide +kernel
theorem dX6_wornBy_9 : decode cX6_wornBy 9 = .ok (.if_icmp .ge 29, 3) := by decide +kernel
theorem dX6_wornBy_12 : decode cX6_wornBy 12 = .ok (.iload_n 2, 1) := by decide +kernel
theorem dX6_wornBy_13 : decode cX6_wornBy 13 = .ok (.aload_n 0, 1) := by decide +kernel
theorem dX6_wornBy_14 : decode cX6_wornBy 14 = .ok (.bipush 13, 2) := by decide +kernel
theorem dX6_wornBy_16 : decode cX6_wornBy 16 = .ok (.iload_n 3, 1) := by decide +kernel
theorem dX6_wornBy_17 : decode cX6_wornBy 17 = .ok (.iadd, 1) := by decide +kernel
theorem dX6_wornBy_18 : decode cX6_wornBy 18 = .ok (.iaload, 1) := by decide +kernel
theorem dX6_wornBy_19 : decode cX6_wornBy 19 = .ok (.iload_n 1, 1) := by decide +kernel
theorem dX6_wornBy_20 : decode cX6_wornBy 20 = .ok (.if_icmp .ne 9, 3) := by decide +kernel
theorem dX6_wornBy_23 : decode cX6_wornBy 23 = .ok (.iconst 1, 1) := by decide +kernel
theorem dX6_wornBy_24 : decode cX6_wornBy 24 = .ok (.iload_n 3, 1) := by decide +kernel
theorem dX6_wornBy_25 : decode cX6_wornBy 25 = .ok (.ishl, 1) := by decide +kernel
theorem dX6_wornBy_26 : decode cX6_wornBy 26 = .ok (.goto 4, 3) := by decide +kernel
theorem dX6_wornBy_29 : decode cX6_wornBy 29 = .ok (.iconst 0, 1) := by decide +kernel
theorem dX6_wornBy_30 : decode cX6_wornBy 30 = .ok (.ior, 1) := by decide +kernel
theorem dX6_wornBy_31 : decode cX6_wornBy 31 = .ok (.istore_n 2, 1) := by decide +kernel
theorem dX6_wornBy_32 : decode cX6_wornBy 32 = .ok (.iinc 3 1, 3) := by decide +kernel
theorem dX6_wornBy_35 : decode cX6_wornBy 35 = .ok (.goto (-31), 3) := by decide +kernel
theorem dX6_wornBy_38 : decode cX6_wornBy 38 = .ok (.iload_n 2, 1) := by decide +kernel
theorem dX6_wornBy_39 : decode cX6_wornBy 39 = .ok (.ireturn, 1) := by decide +kernel
set_option maxRecDepth 20000 in
theorem ggX6_bears_X6_wornBy : GoodIn wsX6_bears wsX6_wornBy := goodIn_r _ [4] (by decide +kernel) (by decide +kernel)
set_option maxRecDepth 20000 in
theorem gX6_bears_X6_wornBy : GoodIn wsX6_bears (va_wsS RX6 54 yX6_wornBy wsX6_wornBy) := goodIn_app (goodIn_of _ (by decide +kernel)) ggX6_bears_X6_wornBy
set_option maxRecDepth 20000 in
theorem ggX6_bears_X6_bits : GoodIn wsX6_bears wsX6_bits := goodIn_r _ [7] (by decide +kernel) (by decide +kernel)
set_option maxRecDepth 20000 in
theorem gX6_bears_X6_bits : GoodIn wsX6_bears (va_wsS RX6 57 yX6_bits wsX6_bits) := goodIn_app (goodIn_of _ (by decide +kernel)) ggX6_bears_X6_bits
theorem dX6_bears_0 : decode cX6_bears 0 = .ok (.aload_n 0, 1) := by decide +kernel
theorem dX6_bears_1 : decode cX6_bears 1 = .ok (.bipush 13, 2) := by decide +kernel
theorem dX6_bears_3 : decode cX6_bears 3 = .ok (.iload_n 1, 1) := by decide +kernel
theorem dX6_bears_4 : decode cX6_bears 4 = .ok (.iadd, 1) := by decide +kernel
theorem dX6_bears_5 : decode cX6_bears 5 = .ok (.iaload, 1) := by decide +kernel
theorem dX6_bears_6 : decode cX6_bears 6 = .ok (.istore_n 2, 1) := by decide +kernel
theorem dX6_bears_7 : decode cX6_bears 7 = .ok (.iload_n 2, 1) := by decide +kernel
theorem dX6_bears_8 : decode cX6_bears 8 = .ok (.bipush (-4), 2) := by decide +kernel
theorem dX6_bears_10 : decode cX6_bears 10 = .ok (.if_icmp .ne 5, 3) := by decide +kernel
theorem dX6_bears_13 : decode cX6_bears 13 = .ok (.iconst 0, 1) := by decide +kernel
theorem dX6_bears_14 : decode cX6_bears 14 = .ok (.ireturn, 1) := by decide +kernel
theorem dX6_bears_15 : decode cX6_bears 15 = .ok (.aload_n 0, 1) := by decide +kernel
theorem dX6_bears_16 : decode cX6_bears 16 = .ok (.bipush 7, 2) := by decide +kernel
theorem dX6_bears_18 : decode cX6_bears 18 = .ok (.iload_n 1, 1) := by decide +kernel
theorem dX6_bears_19 : decode cX6_bears 19 = .ok (.iadd, 1) := by decide +kernel
theorem dX6_bears_20 : decode cX6_bears 20 = .ok (.iaload, 1) := by decide +kernel
theorem dX6_bears_21 : decode cX6_bears 21 = .ok (.istore_n 3, 1) := by decide +kernel
theorem dX6_bears_22 : decode cX6_bears 22 = .ok (.iload_n 3, 1) := by decide +kernel
theorem dX6_bears_23 : decode cX6_bears 23 = .ok (.aload_n 0, 1) := by decide +kernel
theorem dX6_bears_24 : decode cX6_bears 24 = .ok (.iconst 0, 1) := by decide +kernel
theorem dX6_bears_25 : decode cX6_bears 25 = .ok (.iaload, 1) := by decide +kernel
theorem dX6_bears_26 : decode cX6_bears 26 = .ok (.iconst 2, 1) := by decide +kernel
theorem dX6_bears_27 : decode cX6_bears 27 = .ok (.irem, 1) := by decide +kernel
theorem dX6_bears_28 : decode cX6_bears 28 = .ok (.iconst 1, 1) := by decide +kernel
theorem dX6_bears_29 : decode cX6_bears 29 = .ok (.if_icmp .ne 7, 3) := by decide +kernel
theorem dX6_bears_32 : decode cX6_bears 32 = .ok (.iconst 3, 1) := by decide +kernel
theorem dX6_bears_33 : decode cX6_bears 33 = .ok (.goto 4, 3) := by decide +kernel
theorem dX6_bears_36 : decode cX6_bears 36 = .ok (.iconst 0, 1) := by decide +kernel
theorem dX6_bears_37 : decode cX6_bears 37 = .ok (.iadd, 1) := by decide +kernel
theorem dX6_bears_38 : decode cX6_bears 38 = .ok (.istore 4, 2) := by decide +kernel
theorem dX6_bears_40 : decode cX6_bears 40 = .ok (.iload_n 3, 1) := by decide +kernel
theorem dX6_bears_41 : decode cX6_bears 41 = .ok (.istore 5, 2) := by decide +kernel
theorem dX6_bears_43 : decode cX6_bears 43 = .ok (.aload_n 0, 1) := by decide +kernel
theorem dX6_bears_44 : decode cX6_bears 44 = .ok (.bipush 26, 2) := by decide +kernel
theorem dX6_bears_46 : decode cX6_bears 46 = .ok (.iload_n 1, 1) := by decide +kernel
theorem dX6_bears_47 : decode cX6_bears 47 = .ok (.iadd, 1) := by decide +kernel
theorem dX6_bears_48 : decode cX6_bears 48 = .ok (.iaload, 1) := by decide +kernel
theorem dX6_bears_49 : decode cX6_bears 49 = .ok (.tableswitch 71 0 3 #[31, 37, 45, 52], 31) := by decide +kernel
theorem dX6_bears_80 : decode cX6_bears 80 = .ok (.iload_n 3, 1) := by decide +kernel
theorem dX6_bears_81 : decode cX6_bears 81 = .ok (.istore 5, 2) := by decide +kernel
theorem dX6_bears_83 : decode cX6_bears 83 = .ok (.goto 43, 3) := by decide +kernel
theorem dX6_bears_86 : decode cX6_bears 86 = .ok (.iconst 2, 1) := by decide +kernel
theorem dX6_bears_87 : decode cX6_bears 87 = .ok (.iload_n 3, 1) := by decide +kernel
theorem dX6_bears_88 : decode cX6_bears 88 = .ok (.imul, 1) := by decide +kernel
theorem dX6_bears_89 : decode cX6_bears 89 = .ok (.istore 5, 2) := by decide +kernel
theorem dX6_bears_91 : decode cX6_bears 91 = .ok (.goto 35, 3) := by decide +kernel
theorem dX6_bears_94 : decode cX6_bears 94 = .ok (.iload 4, 2) := by decide +kernel
theorem dX6_bears_96 : decode cX6_bears 96 = .ok (.istore 5, 2) := by decide +kernel
theorem dX6_bears_98 : decode cX6_bears 98 = .ok (.goto 28, 3) := by decide +kernel
theorem dX6_bears_101 : decode cX6_bears 101 = .ok (.iconst 2, 1) := by decide +kernel
theorem dX6_bears_102 : decode cX6_bears 102 = .ok (.iload_n 3, 1) := by decide +kernel
theorem dX6_bears_103 : decode cX6_bears 103 = .ok (.imul, 1) := by decide +kernel
theorem dX6_bears_104 : decode cX6_bears 104 = .ok (.aload_n 0, 1) := by decide +kernel
theorem dX6_bears_105 : decode cX6_bears 105 = .ok (.iload_n 2, 1) := by decide +kernel
theorem dX6_bears_106 : decode cX6_bears 106 = .ok (.invokestatic 54, 3) := by decide +kernel
theorem dX6_bears_109 : decode cX6_bears 109 = .ok (.invokestatic 57, 3) := by decide +kernel
theorem dX6_bears_112 : decode cX6_bears 112 = .ok (.iadd, 1) := by decide +kernel
theorem dX6_bears_113 : decode cX6_bears 113 = .ok (.iconst 1, 1) := by decide +kernel
theorem dX6_bears_114 : decode cX6_bears 114 = .ok (.isub, 1) := by decide +kernel
theorem dX6_bears_115 : decode cX6_bears 115 = .ok (.istore 5, 2) := by decide +kernel
theorem dX6_bears_117 : decode cX6_bears 117 = .ok (.goto 9, 3) := by decide +kernel
theorem dX6_bears_120 : decode cX6_bears 120 = .ok (.iload 4, 2) := by decide +kernel
theorem dX6_bears_122 : decode cX6_bears 122 = .ok (.iconst 2, 1) := by decide +kernel
theorem dX6_bears_123 : decode cX6_bears 123 = .ok (.idiv, 1) := by decide +kernel
theorem dX6_bears_124 : decode cX6_bears 124 = .ok (.istore 5, 2) := by decide +kernel
theorem dX6_bears_126 : decode cX6_bears 126 = .ok (.aload_n 0, 1) := by decide +kernel
theorem dX6_bears_127 : decode cX6_bears 127 = .ok (.bipush 32, 2) := by decide +kernel
theorem dX6_bears_129 : decode cX6_bears 129 = .ok (.iload_n 1, 1) := by decide +kernel
theorem dX6_bears_130 : decode cX6_bears 130 = .ok (.iadd, 1) := by decide +kernel
theorem dX6_bears_131 : decode cX6_bears 131 = .ok (.iaload, 1) := by decide +kernel
theorem dX6_bears_132 : decode cX6_bears 132 = .ok (.iload_n 2, 1) := by decide +kernel
theorem dX6_bears_133 : decode cX6_bears 133 = .ok (.if_icmp .ne 10, 3) := by decide +kernel
theorem dX6_bears_136 : decode cX6_bears 136 = .ok (.iload 5, 2) := by decide +kernel
theorem dX6_bears_138 : decode cX6_bears 138 = .ok (.iconst 2, 1) := by decide +kernel
theorem dX6_bears_139 : decode cX6_bears 139 = .ok (.idiv, 1) := by decide +kernel
theorem dX6_bears_140 : decode cX6_bears 140 = .ok (.goto 5, 3) := by decide +kernel
theorem dX6_bears_143 : decode cX6_bears 143 = .ok (.iload 5, 2) := by decide +kernel
theorem dX6_bears_145 : decode cX6_bears 145 = .ok (.ireturn, 1) := by decide +kernel
set_option maxRecDepth 20000 in
theorem ggX6_load_X6_bears : GoodIn wsX6_load wsX6_bears := goodIn_r _ [4, 5, 6, 3, 7, 8, 9, 10] (by decide +kernel) (by decide +kernel)
set_option maxRecDepth 20000 in
theorem gX6_load_X6_bears : GoodIn wsX6_load (va_wsS RX6 61 yX6_bears wsX6_bears) := goodIn_app (goodIn_of _ (by decide +kernel)) ggX6_load_X6_bears
theorem dX6_load_0 : decode cX6_load 0 = .ok (.iconst 0, 1) := by decide +kernel
theorem dX6_load_1 : decode cX6_load 1 = .ok (.istore_n 2, 1) := by decide +kernel
theorem dX6_load_2 : decode cX6_load 2 = .ok (.iconst 0, 1) := by decide +kernel
theorem dX6_load_3 : decode cX6_load 3 = .ok (.istore_n 3, 1) := by decide +kernel
theorem dX6_load_4 : decode cX6_load 4 = .ok (.iload_n 3, 1) := by decide +kernel
theorem dX6_load_5 : decode cX6_load 5 = .ok (.aload_n 0, 1) := by decide +kernel
theorem dX6_load_6 : decode cX6_load 6 = .ok (.bipush 25, 2) := by decide +kernel
theorem dX6_load_8 : decode cX6_load 8 = .ok (.iaload, 1) := by decide +kernel
theorem dX6_load_9 : decode cX6_load 9 = .ok (.if_icmp .ge 31, 3) := by decide +kernel
theorem dX6_load_12 : decode cX6_load 12 = .ok (.iload_n 2, 1) := by decide +kernel
theorem dX6_load_13 : decode cX6_load 13 = .ok (.aload_n 0, 1) := by decide +kernel
theorem dX6_load_14 : decode cX6_load 14 = .ok (.bipush 13, 2) := by decide +kernel
theorem dX6_load_16 : decode cX6_load 16 = .ok (.iload_n 3, 1) := by decide +kernel
theorem dX6_load_17 : decode cX6_load 17 = .ok (.iadd, 1) := by decide +kernel
theorem dX6_load_18 : decode cX6_load 18 = .ok (.iaload, 1) := by decide +kernel
theorem dX6_load_19 : decode cX6_load 19 = .ok (.iload_n 1, 1) := by decide +kernel
theorem dX6_load_20 : decode cX6_load 20 = .ok (.if_icmp .ne 11, 3) := by decide +kernel
theorem dX6_load_23 : decode cX6_load 23 = .ok (.aload_n 0, 1) := by decide +kernel
theorem dX6_load_24 : decode cX6_load 24 = .ok (.iload_n 3, 1) := by decide +kernel
theorem dX6_load_25 : decode cX6_load 25 = .ok (.invokestatic 61, 3) := by decide +kernel
theorem dX6_load_28 : decode cX6_load 28 = .ok (.goto 4, 3) := by decide +kernel
theorem dX6_load_31 : decode cX6_load 31 = .ok (.iconst 0, 1) := by decide +kernel
theorem dX6_load_32 : decode cX6_load 32 = .ok (.iadd, 1) := by decide +kernel
theorem dX6_load_33 : decode cX6_load 33 = .ok (.istore_n 2, 1) := by decide +kernel
theorem dX6_load_34 : decode cX6_load 34 = .ok (.iinc 3 1, 3) := by decide +kernel
theorem dX6_load_37 : decode cX6_load 37 = .ok (.goto (-33), 3) := by decide +kernel
theorem dX6_load_40 : decode cX6_load 40 = .ok (.iload_n 2, 1) := by decide +kernel
theorem dX6_load_41 : decode cX6_load 41 = .ok (.ireturn, 1) := by decide +kernel
set_option maxRecDepth 20000 in
theorem ggX6_isBent_X6_load : GoodIn wsX6_isBent wsX6_load := goodIn_r _ [4, 5, 6, 3, 7, 8, 9, 10, 11, 12, 13] (by decide +kernel) (by decide +kernel)
set_option maxRecDepth 20000 in
theorem gX6_isBent_X6_load : GoodIn wsX6_isBent (va_wsS RX6 64 yX6_load wsX6_load) := goodIn_app (goodIn_of _ (by decide +kernel)) ggX6_isBent_X6_load
theorem dX6_isBent_0 : decode cX6_isBent 0 = .ok (.aload_n 0, 1) := by decide +kernel
theorem dX6_isBent_1 : decode cX6_isBent 1 = .ok (.iload_n 1, 1) := by decide +kernel
theorem dX6_isBent_2 : decode cX6_isBent 2 = .ok (.invokestatic 64, 3) := by decide +kernel
theorem dX6_isBent_5 : decode cX6_isBent 5 = .ok (.aload_n 0, 1) := by decide +kernel
theorem dX6_isBent_6 : decode cX6_isBent 6 = .ok (.iconst 2, 1) := by decide +kernel
theorem dX6_isBent_7 : decode cX6_isBent 7 = .ok (.iload_n 1, 1) := by decide +kernel
theorem dX6_isBent_8 : decode cX6_isBent 8 = .ok (.iadd, 1) := by decide +kernel
theorem dX6_isBent_9 : decode cX6_isBent 9 = .ok (.iaload, 1) := by decide +kernel
theorem dX6_isBent_10 : decode cX6_isBent 10 = .ok (.if_icmp .le 7, 3) := by decide +kernel
theorem dX6_isBent_13 : decode cX6_isBent 13 = .ok (.iconst 1, 1) := by decide +kernel
theorem dX6_isBent_14 : decode cX6_isBent 14 = .ok (.goto 4, 3) := by decide +kernel
theorem dX6_isBent_17 : decode cX6_isBent 17 = .ok (.iconst 0, 1) := by decide +kernel
theorem dX6_isBent_18 : decode cX6_isBent 18 = .ok (.ireturn, 1) := by decide +kernel
set_option maxRecDepth 20000 in
theorem ggX6_bentOnes_X6_isBent : GoodIn wsX6_bentOnes wsX6_isBent := goodIn_r _ [4, 5, 6, 3, 7, 8, 9, 10, 11, 12, 13, 14, 15, 16] (by decide +kernel) (by decide +kernel)
set_option maxRecDepth 20000 in
theorem gX6_bentOnes_X6_isBent : GoodIn wsX6_bentOnes (va_wsS RX6 67 yX6_isBent wsX6_isBent) := goodIn_app (goodIn_of _ (by decide +kernel)) ggX6_bentOnes_X6_isBent
theorem dX6_bentOnes_0 : decode cX6_bentOnes 0 = .ok (.iconst 0, 1) := by decide +kernel
theorem dX6_bentOnes_1 : decode cX6_bentOnes 1 = .ok (.istore_n 1, 1) := by decide +kernel
theorem dX6_bentOnes_2 : decode cX6_bentOnes 2 = .ok (.iconst 0, 1) := by decide +kernel
theorem dX6_bentOnes_3 : decode cX6_bentOnes 3 = .ok (.istore_n 2, 1) := by decide +kernel
theorem dX6_bentOnes_4 : decode cX6_bentOnes 4 = .ok (.iload_n 2, 1) := by decide +kernel
theorem dX6_bentOnes_5 : decode cX6_bentOnes 5 = .ok (.aload_n 0, 1) := by decide +kernel
theorem dX6_bentOnes_6 : decode cX6_bentOnes 6 = .ok (.bipush 19, 2) := by decide +kernel
theorem dX6_bentOnes_8 : decode cX6_bentOnes 8 = .ok (.iaload, 1) := by decide +kernel
theorem dX6_bentOnes_9 : decode cX6_bentOnes 9 = .ok (.if_icmp .ge 27, 3) := by decide +kernel
theorem dX6_bentOnes_12 : decode cX6_bentOnes 12 = .ok (.iload_n 1, 1) := by decide +kernel
theorem dX6_bentOnes_13 : decode cX6_bentOnes 13 = .ok (.aload_n 0, 1) := by decide +kernel
theorem dX6_bentOnes_14 : decode cX6_bentOnes 14 = .ok (.iload_n 2, 1) := by decide +kernel
theorem dX6_bentOnes_15 : decode cX6_bentOnes 15 = .ok (.invokestatic 67, 3) := by decide +kernel
theorem dX6_bentOnes_18 : decode cX6_bentOnes 18 = .ok (.ifCond .eq 9, 3) := by decide +kernel
theorem dX6_bentOnes_21 : decode cX6_bentOnes 21 = .ok (.iconst 1, 1) := by decide +kernel
theorem dX6_bentOnes_22 : decode cX6_bentOnes 22 = .ok (.iload_n 2, 1) := by decide +kernel
theorem dX6_bentOnes_23 : decode cX6_bentOnes 23 = .ok (.ishl, 1) := by decide +kernel
theorem dX6_bentOnes_24 : decode cX6_bentOnes 24 = .ok (.goto 4, 3) := by decide +kernel
theorem dX6_bentOnes_27 : decode cX6_bentOnes 27 = .ok (.iconst 0, 1) := by decide +kernel
theorem dX6_bentOnes_28 : decode cX6_bentOnes 28 = .ok (.ior, 1) := by decide +kernel
theorem dX6_bentOnes_29 : decode cX6_bentOnes 29 = .ok (.istore_n 1, 1) := by decide +kernel
theorem dX6_bentOnes_30 : decode cX6_bentOnes 30 = .ok (.iinc 2 1, 3) := by decide +kernel
theorem dX6_bentOnes_33 : decode cX6_bentOnes 33 = .ok (.goto (-29), 3) := by decide +kernel
theorem dX6_bentOnes_36 : decode cX6_bentOnes 36 = .ok (.iload_n 1, 1) := by decide +kernel
theorem dX6_bentOnes_37 : decode cX6_bentOnes 37 = .ok (.ireturn, 1) := by decide +kernel
set_option maxRecDepth 20000 in
theorem ggX6_at_X6_isMedal : GoodIn wsX6_at wsX6_isMedal := goodIn_r _ [6, 1, 7, 8, 5, 9, 19, 20, 21, 22, 23, 24, 25, 26, 27, 28, 29, 30, 31, 32, 33] (by decide +kernel) (by decide +kernel)
set_option maxRecDepth 20000 in
theorem gX6_at_X6_isMedal : GoodIn wsX6_at (wsV RX6 74 RX6 yX6_isMedal wsX6_isMedal) := goodIn_app (goodIn_of _ (by decide +kernel)) ggX6_at_X6_isMedal
set_option maxRecDepth 20000 in
theorem ggX6_at_X6_bears : GoodIn wsX6_at wsX6_bears := goodIn_r _ [12, 13, 14, 5, 15, 16, 17, 18] (by decide +kernel) (by decide +kernel)
set_option maxRecDepth 20000 in
theorem gX6_at_X6_bears : GoodIn wsX6_at (va_wsS RX6 61 yX6_bears wsX6_bears) := goodIn_app (goodIn_of _ (by decide +kernel)) ggX6_at_X6_bears
theorem dX6_at_0 : decode cX6_at 0 = .ok (.aload_n 0, 1) := by decide +kernel
theorem dX6_at_1 : decode cX6_at 1 = .ok (.iload_n 1, 1) := by decide +kernel
theorem dX6_at_2 : decode cX6_at 2 = .ok (.invokevirtual 74, 3) := by decide +kernel
theorem dX6_at_5 : decode cX6_at 5 = .ok (.ifCond .ne 5, 3) := by decide +kernel
theorem dX6_at_8 : decode cX6_at 8 = .ok (.iconst (-1), 1) := by decide +kernel
theorem dX6_at_9 : decode cX6_at 9 = .ok (.ireturn, 1) := by decide +kernel
theorem dX6_at_10 : decode cX6_at 10 = .ok (.iload_n 2, 1) := by decide +kernel
theorem dX6_at_11 : decode cX6_at 11 = .ok (.tableswitch 82 0 4 #[33, 43, 53, 63, 73], 33) := by decide +kernel
theorem dX6_at_44 : decode cX6_at 44 = .ok (.aload_n 0, 1) := by decide +kernel
theorem dX6_at_45 : decode cX6_at 45 = .ok (.getfield 23, 3) := by decide +kernel
theorem dX6_at_48 : decode cX6_at 48 = .ok (.bipush 26, 2) := by decide +kernel
theorem dX6_at_50 : decode cX6_at 50 = .ok (.iload_n 1, 1) := by decide +kernel
theorem dX6_at_51 : decode cX6_at 51 = .ok (.iadd, 1) := by decide +kernel
theorem dX6_at_52 : decode cX6_at 52 = .ok (.iaload, 1) := by decide +kernel
theorem dX6_at_53 : decode cX6_at 53 = .ok (.ireturn, 1) := by decide +kernel
theorem dX6_at_54 : decode cX6_at 54 = .ok (.aload_n 0, 1) := by decide +kernel
theorem dX6_at_55 : decode cX6_at 55 = .ok (.getfield 23, 3) := by decide +kernel
theorem dX6_at_58 : decode cX6_at 58 = .ok (.bipush 7, 2) := by decide +kernel
theorem dX6_at_60 : decode cX6_at 60 = .ok (.iload_n 1, 1) := by decide +kernel
theorem dX6_at_61 : decode cX6_at 61 = .ok (.iadd, 1) := by decide +kernel
theorem dX6_at_62 : decode cX6_at 62 = .ok (.iaload, 1) := by decide +kernel
theorem dX6_at_63 : decode cX6_at 63 = .ok (.ireturn, 1) := by decide +kernel
theorem dX6_at_64 : decode cX6_at 64 = .ok (.aload_n 0, 1) := by decide +kernel
theorem dX6_at_65 : decode cX6_at 65 = .ok (.getfield 23, 3) := by decide +kernel
theorem dX6_at_68 : decode cX6_at 68 = .ok (.bipush 32, 2) := by decide +kernel
theorem dX6_at_70 : decode cX6_at 70 = .ok (.iload_n 1, 1) := by decide +kernel
theorem dX6_at_71 : decode cX6_at 71 = .ok (.iadd, 1) := by decide +kernel
theorem dX6_at_72 : decode cX6_at 72 = .ok (.iaload, 1) := by decide +kernel
theorem dX6_at_73 : decode cX6_at 73 = .ok (.ireturn, 1) := by decide +kernel
theorem dX6_at_74 : decode cX6_at 74 = .ok (.aload_n 0, 1) := by decide +kernel
theorem dX6_at_75 : decode cX6_at 75 = .ok (.getfield 23, 3) := by decide +kernel
theorem dX6_at_78 : decode cX6_at 78 = .ok (.bipush 13, 2) := by decide +kernel
theorem dX6_at_80 : decode cX6_at 80 = .ok (.iload_n 1, 1) := by decide +kernel
theorem dX6_at_81 : decode cX6_at 81 = .ok (.iadd, 1) := by decide +kernel
theorem dX6_at_82 : decode cX6_at 82 = .ok (.iaload, 1) := by decide +kernel
theorem dX6_at_83 : decode cX6_at 83 = .ok (.ireturn, 1) := by decide +kernel
theorem dX6_at_84 : decode cX6_at 84 = .ok (.aload_n 0, 1) := by decide +kernel
theorem dX6_at_85 : decode cX6_at 85 = .ok (.getfield 23, 3) := by decide +kernel
theorem dX6_at_88 : decode cX6_at 88 = .ok (.iload_n 1, 1) := by decide +kernel
theorem dX6_at_89 : decode cX6_at 89 = .ok (.invokestatic 61, 3) := by decide +kernel
theorem dX6_at_92 : decode cX6_at 92 = .ok (.ireturn, 1) := by decide +kernel
theorem dX6_at_93 : decode cX6_at 93 = .ok (.iconst (-1), 1) := by decide +kernel
theorem dX6_at_94 : decode cX6_at 94 = .ok (.ireturn, 1) := by decide +kernel
theorem dX6_strengths_0 : decode cX6_strengths 0 = .ok (.iconst 0, 1) := by decide +kernel
theorem dX6_strengths_1 : decode cX6_strengths 1 = .ok (.istore_n 1, 1) := by decide +kernel
theorem dX6_strengths_2 : decode cX6_strengths 2 = .ok (.iconst 0, 1) := by decide +kernel
theorem dX6_strengths_3 : decode cX6_strengths 3 = .ok (.istore_n 2, 1) := by decide +kernel
theorem dX6_strengths_4 : decode cX6_strengths 4 = .ok (.iload_n 2, 1) := by decide +kernel
theorem dX6_strengths_5 : decode cX6_strengths 5 = .ok (.aload_n 0, 1) := by decide +kernel
theorem dX6_strengths_6 : decode cX6_strengths 6 = .ok (.getfield 23, 3) := by decide +kernel
theorem dX6_strengths_9 : decode cX6_strengths 9 = .ok (.bipush 19, 2) := by decide +kernel
theorem dX6_strengths_11 : decode cX6_strengths 11 = .ok (.iaload, 1) := by decide +kernel
theorem dX6_strengths_12 : decode cX6_strengths 12 = .ok (.if_icmp .ge 20, 3) := by decide +kernel
theorem dX6_strengths_15 : decode cX6_strengths 15 = .ok (.iload_n 1, 1) := by decide +kernel
theorem dX6_strengths_16 : decode cX6_strengths 16 = .ok (.aload_n 0, 1) := by decide +kernel
theorem dX6_strengths_17 : decode cX6_strengths 17 = .ok (.getfield 23, 3) := by decide +kernel
theorem dX6_strengths_20 : decode cX6_strengths 20 = .ok (.iconst 2, 1) := by decide +kernel
theorem dX6_strengths_21 : decode cX6_strengths 21 = .ok (.iload_n 2, 1) := by decide +kernel
theorem dX6_strengths_22 : decode cX6_strengths 22 = .ok (.iadd, 1) := by decide +kernel
theorem dX6_strengths_23 : decode cX6_strengths 23 = .ok (.iaload, 1) := by decide +kernel
theorem dX6_strengths_24 : decode cX6_strengths 24 = .ok (.iadd, 1) := by decide +kernel
theorem dX6_strengths_25 : decode cX6_strengths 25 = .ok (.istore_n 1, 1) := by decide +kernel
theorem dX6_strengths_26 : decode cX6_strengths 26 = .ok (.iinc 2 1, 3) := by decide +kernel
theorem dX6_strengths_29 : decode cX6_strengths 29 = .ok (.goto (-25), 3) := by decide +kernel
theorem dX6_strengths_32 : decode cX6_strengths 32 = .ok (.iload_n 1, 1) := by decide +kernel
theorem dX6_strengths_33 : decode cX6_strengths 33 = .ok (.ireturn, 1) := by decide +kernel
set_option maxRecDepth 20000 in
theorem ggX6_loads_X6_load : GoodIn wsX6_loads wsX6_load := goodIn_r _ [4, 5, 6, 3, 7, 8, 9, 10, 11, 12, 13] (by decide +kernel) (by decide +kernel)
set_option maxRecDepth 20000 in
theorem gX6_loads_X6_load : GoodIn wsX6_loads (va_wsS RX6 64 yX6_load wsX6_load) := goodIn_app (goodIn_of _ (by decide +kernel)) ggX6_loads_X6_load
theorem dX6_loads_0 : decode cX6_loads 0 = .ok (.iconst 0, 1) := by decide +kernel
theorem dX6_loads_1 : decode cX6_loads 1 = .ok (.istore_n 1, 1) := by decide +kernel
theorem dX6_loads_2 : decode cX6_loads 2 = .ok (.iconst 0, 1) := by decide +kernel
theorem dX6_loads_3 : decode cX6_loads 3 = .ok (.istore_n 2, 1) := by decide +kernel
theorem dX6_loads_4 : decode cX6_loads 4 = .ok (.iload_n 2, 1) := by decide +kernel
theorem dX6_loads_5 : decode cX6_loads 5 = .ok (.aload_n 0, 1) := by decide +kernel
theorem dX6_loads_6 : decode cX6_loads 6 = .ok (.bipush 19, 2) := by decide +kernel
theorem dX6_loads_8 : decode cX6_loads 8 = .ok (.iaload, 1) := by decide +kernel
theorem dX6_loads_9 : decode cX6_loads 9 = .ok (.if_icmp .ge 17, 3) := by decide +kernel
theorem dX6_loads_12 : decode cX6_loads 12 = .ok (.iload_n 1, 1) := by decide +kernel
theorem dX6_loads_13 : decode cX6_loads 13 = .ok (.aload_n 0, 1) := by decide +kernel
theorem dX6_loads_14 : decode cX6_loads 14 = .ok (.iload_n 2, 1) := by decide +kernel
theorem dX6_loads_15 : decode cX6_loads 15 = .ok (.invokestatic 64, 3) := by decide +kernel
theorem dX6_loads_18 : decode cX6_loads 18 = .ok (.iadd, 1) := by decide +kernel
theorem dX6_loads_19 : decode cX6_loads 19 = .ok (.istore_n 1, 1) := by decide +kernel
theorem dX6_loads_20 : decode cX6_loads 20 = .ok (.iinc 2 1, 3) := by decide +kernel
theorem dX6_loads_23 : decode cX6_loads 23 = .ok (.goto (-19), 3) := by decide +kernel
theorem dX6_loads_26 : decode cX6_loads 26 = .ok (.iload_n 1, 1) := by decide +kernel
theorem dX6_loads_27 : decode cX6_loads 27 = .ok (.ireturn, 1) := by decide +kernel
set_option maxRecDepth 20000 in
theorem ggX6_count_X6_bentOnes : GoodIn wsX6_count wsX6_bentOnes := goodIn_r _ [5, 6, 7, 4, 8, 9, 10, 11, 12, 13, 14, 15, 16, 17, 18, 19, 20] (by decide +kernel) (by decide +kernel)
set_option maxRecDepth 20000 in
theorem gX6_count_X6_bentOnes : GoodIn wsX6_count (va_wsS RX6 118 yX6_bentOnes wsX6_bentOnes) := goodIn_app (goodIn_of _ (by decide +kernel)) ggX6_count_X6_bentOnes
set_option maxRecDepth 20000 in
theorem ggX6_count_X6_wornBy : GoodIn wsX6_count wsX6_wornBy := goodIn_r _ [17] (by decide +kernel) (by decide +kernel)
set_option maxRecDepth 20000 in
theorem gX6_count_X6_wornBy : GoodIn wsX6_count (va_wsS RX6 54 yX6_wornBy wsX6_wornBy) := goodIn_app (goodIn_of _ (by decide +kernel)) ggX6_count_X6_wornBy
set_option maxRecDepth 20000 in
theorem ggX6_count_X6_strengths : GoodIn wsX6_count wsX6_strengths := goodIn_r _ [24, 1, 28, 29, 30, 31, 32, 33, 34, 35, 36, 37, 38, 39, 40, 41, 42] (by decide +kernel) (by decide +kernel)
set_option maxRecDepth 20000 in
theorem gX6_count_X6_strengths : GoodIn wsX6_count (wsV RX6 122 RX6 yX6_strengths wsX6_strengths) := goodIn_app (goodIn_of _ (by decide +kernel)) ggX6_count_X6_strengths
set_option maxRecDepth 20000 in
theorem ggX6_count_X6_loads : GoodIn wsX6_count wsX6_loads := goodIn_r _ [27, 9, 10, 4, 11, 12, 13, 14, 15, 16, 17, 18, 19, 20] (by decide +kernel) (by decide +kernel)
set_option maxRecDepth 20000 in
theorem gX6_count_X6_loads : GoodIn wsX6_count (va_wsS RX6 125 yX6_loads wsX6_loads) := goodIn_app (goodIn_of _ (by decide +kernel)) ggX6_count_X6_loads
theorem dX6_count_0 : decode cX6_count 0 = .ok (.iload_n 1, 1) := by decide +kernel
theorem dX6_count_1 : decode cX6_count 1 = .ok (.tableswitch 109 0 7 #[47, 55, 63, 70, 78, 88, 93, 101], 47) := by decide +kernel
theorem dX6_count_48 : decode cX6_count 48 = .ok (.aload_n 0, 1) := by decide +kernel
theorem dX6_count_49 : decode cX6_count 49 = .ok (.getfield 23, 3) := by decide +kernel
theorem dX6_count_52 : decode cX6_count 52 = .ok (.bipush 19, 2) := by decide +kernel
theorem dX6_count_54 : decode cX6_count 54 = .ok (.iaload, 1) := by decide +kernel
theorem dX6_count_55 : decode cX6_count 55 = .ok (.ireturn, 1) := by decide +kernel
theorem dX6_count_56 : decode cX6_count 56 = .ok (.aload_n 0, 1) := by decide +kernel
theorem dX6_count_57 : decode cX6_count 57 = .ok (.getfield 23, 3) := by decide +kernel
theorem dX6_count_60 : decode cX6_count 60 = .ok (.bipush 25, 2) := by decide +kernel
theorem dX6_count_62 : decode cX6_count 62 = .ok (.iaload, 1) := by decide +kernel
theorem dX6_count_63 : decode cX6_count 63 = .ok (.ireturn, 1) := by decide +kernel
theorem dX6_count_64 : decode cX6_count 64 = .ok (.aload_n 0, 1) := by decide +kernel
theorem dX6_count_65 : decode cX6_count 65 = .ok (.getfield 23, 3) := by decide +kernel
theorem dX6_count_68 : decode cX6_count 68 = .ok (.iconst 0, 1) := by decide +kernel
theorem dX6_count_69 : decode cX6_count 69 = .ok (.iaload, 1) := by decide +kernel
theorem dX6_count_70 : decode cX6_count 70 = .ok (.ireturn, 1) := by decide +kernel
theorem dX6_count_71 : decode cX6_count 71 = .ok (.aload_n 0, 1) := by decide +kernel
theorem dX6_count_72 : decode cX6_count 72 = .ok (.getfield 23, 3) := by decide +kernel
theorem dX6_count_75 : decode cX6_count 75 = .ok (.invokestatic 118, 3) := by decide +kernel
theorem dX6_count_78 : decode cX6_count 78 = .ok (.ireturn, 1) := by decide +kernel
theorem dX6_count_79 : decode cX6_count 79 = .ok (.aload_n 0, 1) := by decide +kernel
theorem dX6_count_80 : decode cX6_count 80 = .ok (.getfield 23, 3) := by decide +kernel
theorem dX6_count_83 : decode cX6_count 83 = .ok (.bipush (-4), 2) := by decide +kernel
theorem dX6_count_85 : decode cX6_count 85 = .ok (.invokestatic 54, 3) := by decide +kernel
theorem dX6_count_88 : decode cX6_count 88 = .ok (.ireturn, 1) := by decide +kernel
theorem dX6_count_89 : decode cX6_count 89 = .ok (.aload_n 0, 1) := by decide +kernel
theorem dX6_count_90 : decode cX6_count 90 = .ok (.invokevirtual 122, 3) := by decide +kernel
theorem dX6_count_93 : decode cX6_count 93 = .ok (.ireturn, 1) := by decide +kernel
theorem dX6_count_94 : decode cX6_count 94 = .ok (.aload_n 0, 1) := by decide +kernel
theorem dX6_count_95 : decode cX6_count 95 = .ok (.getfield 23, 3) := by decide +kernel
theorem dX6_count_98 : decode cX6_count 98 = .ok (.invokestatic 125, 3) := by decide +kernel
theorem dX6_count_101 : decode cX6_count 101 = .ok (.ireturn, 1) := by decide +kernel
theorem dX6_count_102 : decode cX6_count 102 = .ok (.aload_n 0, 1) := by decide +kernel
theorem dX6_count_103 : decode cX6_count 103 = .ok (.getfield 23, 3) := by decide +kernel
theorem dX6_count_106 : decode cX6_count 106 = .ok (.bipush 38, 2) := by decide +kernel
theorem dX6_count_108 : decode cX6_count 108 = .ok (.iaload, 1) := by decide +kernel
theorem dX6_count_109 : decode cX6_count 109 = .ok (.ireturn, 1) := by decide +kernel
theorem dX6_count_110 : decode cX6_count 110 = .ok (.iconst (-1), 1) := by decide +kernel
theorem dX6_count_111 : decode cX6_count 111 = .ok (.ireturn, 1) := by decide +kernel
set_option maxRecDepth 20000 in
theorem ggX6_note_X6_bring : GoodIn wsX6_note wsX6_bring := goodIn_r _ [5] (by decide +kernel) (by decide +kernel)
set_option maxRecDepth 20000 in
theorem gX6_note_X6_bring : GoodIn wsX6_note (va_wsS RX6 114 yX6_bring wsX6_bring) := goodIn_app (goodIn_of _ (by decide +kernel)) ggX6_note_X6_bring
theorem dX6_note_0 : decode cX6_note 0 = .ok (.aload_n 0, 1) := by decide +kernel
theorem dX6_note_1 : decode cX6_note 1 = .ok (.getfield 23, 3) := by decide +kernel
theorem dX6_note_4 : decode cX6_note 4 = .ok (.bipush 38, 2) := by decide +kernel
theorem dX6_note_6 : decode cX6_note 6 = .ok (.iaload, 1) := by decide +kernel
theorem dX6_note_7 : decode cX6_note 7 = .ok (.bipush 8, 2) := by decide +kernel
theorem dX6_note_9 : decode cX6_note 9 = .ok (.if_icmp .ne 32, 3) := by decide +kernel
theorem dX6_note_12 : decode cX6_note 12 = .ok (.aload_n 0, 1) := by decide +kernel
theorem dX6_note_13 : decode cX6_note 13 = .ok (.getfield 23, 3) := by decide +kernel
theorem dX6_note_16 : decode cX6_note 16 = .ok (.bipush 58, 2) := by decide +kernel
theorem dX6_note_18 : decode cX6_note 18 = .ok (.aload_n 0, 1) := by decide +kernel
theorem dX6_note_19 : decode cX6_note 19 = .ok (.getfield 23, 3) := by decide +kernel
theorem dX6_note_22 : decode cX6_note 22 = .ok (.bipush 39, 2) := by decide +kernel
theorem dX6_note_24 : decode cX6_note 24 = .ok (.sipush 133, 3) := by decide +kernel
theorem dX6_note_27 : decode cX6_note 27 = .ok (.invokestatic 114, 3) := by decide +kernel
theorem dX6_note_30 : decode cX6_note 30 = .ok (.aload_n 0, 1) := by decide +kernel
theorem dX6_note_31 : decode cX6_note 31 = .ok (.getfield 23, 3) := by decide +kernel
theorem dX6_note_34 : decode cX6_note 34 = .ok (.bipush 38, 2) := by decide +kernel
theorem dX6_note_36 : decode cX6_note 36 = .ok (.dup2, 1) := by decide +kernel
theorem dX6_note_37 : decode cX6_note 37 = .ok (.iaload, 1) := by decide +kernel
theorem dX6_note_38 : decode cX6_note 38 = .ok (.iconst 1, 1) := by decide +kernel
theorem dX6_note_39 : decode cX6_note 39 = .ok (.isub, 1) := by decide +kernel
theorem dX6_note_40 : decode cX6_note 40 = .ok (.iastore, 1) := by decide +kernel
theorem dX6_note_41 : decode cX6_note 41 = .ok (.aload_n 0, 1) := by decide +kernel
theorem dX6_note_42 : decode cX6_note 42 = .ok (.getfield 23, 3) := by decide +kernel
theorem dX6_note_45 : decode cX6_note 45 = .ok (.iconst 0, 1) := by decide +kernel
theorem dX6_note_46 : decode cX6_note 46 = .ok (.aload_n 0, 1) := by decide +kernel
theorem dX6_note_47 : decode cX6_note 47 = .ok (.getfield 23, 3) := by decide +kernel
theorem dX6_note_50 : decode cX6_note 50 = .ok (.bipush 39, 2) := by decide +kernel
theorem dX6_note_52 : decode cX6_note 52 = .ok (.bipush 19, 2) := by decide +kernel
theorem dX6_note_54 : decode cX6_note 54 = .ok (.aload_n 0, 1) := by decide +kernel
theorem dX6_note_55 : decode cX6_note 55 = .ok (.getfield 23, 3) := by decide +kernel
theorem dX6_note_58 : decode cX6_note 58 = .ok (.bipush 38, 2) := by decide +kernel
theorem dX6_note_60 : decode cX6_note 60 = .ok (.iaload, 1) := by decide +kernel
theorem dX6_note_61 : decode cX6_note 61 = .ok (.imul, 1) := by decide +kernel
theorem dX6_note_62 : decode cX6_note 62 = .ok (.iadd, 1) := by decide +kernel
theorem dX6_note_63 : decode cX6_note 63 = .ok (.bipush 19, 2) := by decide +kernel
theorem dX6_note_65 : decode cX6_note 65 = .ok (.invokestatic 114, 3) := by decide +kernel
theorem dX6_note_68 : decode cX6_note 68 = .ok (.aload_n 0, 1) := by decide +kernel
theorem dX6_note_69 : decode cX6_note 69 = .ok (.getfield 23, 3) := by decide +kernel
theorem dX6_note_72 : decode cX6_note 72 = .ok (.bipush 38, 2) := by decide +kernel
theorem dX6_note_74 : decode cX6_note 74 = .ok (.dup2, 1) := by decide +kernel
theorem dX6_note_75 : decode cX6_note 75 = .ok (.iaload, 1) := by decide +kernel
theorem dX6_note_76 : decode cX6_note 76 = .ok (.iconst 1, 1) := by decide +kernel
theorem dX6_note_77 : decode cX6_note 77 = .ok (.iadd, 1) := by decide +kernel
theorem dX6_note_78 : decode cX6_note 78 = .ok (.iastore, 1) := by decide +kernel
theorem dX6_note_79 : decode cX6_note 79 = .ok (.return_, 1) := by decide +kernel
set_option maxRecDepth 20000 in
theorem ggX6_dayIn_X6_bentOnes : GoodIn wsX6_dayIn wsX6_bentOnes := goodIn_r _ [4, 5, 6, 3, 7, 8, 9, 10, 11, 12, 13, 14, 15, 16, 17, 18, 19] (by decide +kernel) (by decide +kernel)
set_option maxRecDepth 20000 in
theorem gX6_dayIn_X6_bentOnes : GoodIn wsX6_dayIn (va_wsS RX6 118 yX6_bentOnes wsX6_bentOnes) := goodIn_app (goodIn_of _ (by decide +kernel)) ggX6_dayIn_X6_bentOnes
theorem dX6_dayIn_0 : decode cX6_dayIn 0 = .ok (.aload_n 0, 1) := by decide +kernel
theorem dX6_dayIn_1 : decode cX6_dayIn 1 = .ok (.invokestatic 118, 3) := by decide +kernel
theorem dX6_dayIn_4 : decode cX6_dayIn 4 = .ok (.istore_n 1, 1) := by decide +kernel
theorem dX6_dayIn_5 : decode cX6_dayIn 5 = .ok (.iconst 0, 1) := by decide +kernel
theorem dX6_dayIn_6 : decode cX6_dayIn 6 = .ok (.istore_n 2, 1) := by decide +kernel
theorem dX6_dayIn_7 : decode cX6_dayIn 7 = .ok (.iload_n 2, 1) := by decide +kernel
theorem dX6_dayIn_8 : decode cX6_dayIn 8 = .ok (.aload_n 0, 1) := by decide +kernel
theorem dX6_dayIn_9 : decode cX6_dayIn 9 = .ok (.bipush 19, 2) := by decide +kernel
theorem dX6_dayIn_11 : decode cX6_dayIn 11 = .ok (.iaload, 1) := by decide +kernel
theorem dX6_dayIn_12 : decode cX6_dayIn 12 = .ok (.if_icmp .ge 63, 3) := by decide +kernel
theorem dX6_dayIn_15 : decode cX6_dayIn 15 = .ok (.aload_n 0, 1) := by decide +kernel
theorem dX6_dayIn_16 : decode cX6_dayIn 16 = .ok (.iconst 2, 1) := by decide +kernel
theorem dX6_dayIn_17 : decode cX6_dayIn 17 = .ok (.iload_n 2, 1) := by decide +kernel
theorem dX6_dayIn_18 : decode cX6_dayIn 18 = .ok (.iadd, 1) := by decide +kernel
theorem dX6_dayIn_19 : decode cX6_dayIn 19 = .ok (.iaload, 1) := by decide +kernel
theorem dX6_dayIn_20 : decode cX6_dayIn 20 = .ok (.iload_n 1, 1) := by decide +kernel
theorem dX6_dayIn_21 : decode cX6_dayIn 21 = .ok (.iload_n 2, 1) := by decide +kernel
theorem dX6_dayIn_22 : decode cX6_dayIn 22 = .ok (.ishr, 1) := by decide +kernel
theorem dX6_dayIn_23 : decode cX6_dayIn 23 = .ok (.iconst 1, 1) := by decide +kernel
theorem dX6_dayIn_24 : decode cX6_dayIn 24 = .ok (.iand, 1) := by decide +kernel
theorem dX6_dayIn_25 : decode cX6_dayIn 25 = .ok (.iconst 1, 1) := by decide +kernel
theorem dX6_dayIn_26 : decode cX6_dayIn 26 = .ok (.if_icmp .ne 7, 3) := by decide +kernel
theorem dX6_dayIn_29 : decode cX6_dayIn 29 = .ok (.iconst (-1), 1) := by decide +kernel
theorem dX6_dayIn_30 : decode cX6_dayIn 30 = .ok (.goto 4, 3) := by decide +kernel
theorem dX6_dayIn_33 : decode cX6_dayIn 33 = .ok (.iconst 1, 1) := by decide +kernel
theorem dX6_dayIn_34 : decode cX6_dayIn 34 = .ok (.iadd, 1) := by decide +kernel
theorem dX6_dayIn_35 : decode cX6_dayIn 35 = .ok (.istore_n 3, 1) := by decide +kernel
theorem dX6_dayIn_36 : decode cX6_dayIn 36 = .ok (.aload_n 0, 1) := by decide +kernel
theorem dX6_dayIn_37 : decode cX6_dayIn 37 = .ok (.iconst 2, 1) := by decide +kernel
theorem dX6_dayIn_38 : decode cX6_dayIn 38 = .ok (.iload_n 2, 1) := by decide +kernel
theorem dX6_dayIn_39 : decode cX6_dayIn 39 = .ok (.iadd, 1) := by decide +kernel
theorem dX6_dayIn_40 : decode cX6_dayIn 40 = .ok (.iload_n 3, 1) := by decide +kernel
theorem dX6_dayIn_41 : decode cX6_dayIn 41 = .ok (.ifCond .ge 7, 3) := by decide +kernel
theorem dX6_dayIn_44 : decode cX6_dayIn 44 = .ok (.iconst 0, 1) := by decide +kernel
theorem dX6_dayIn_45 : decode cX6_dayIn 45 = .ok (.goto 23, 3) := by decide +kernel
theorem dX6_dayIn_48 : decode cX6_dayIn 48 = .ok (.iload_n 3, 1) := by decide +kernel
theorem dX6_dayIn_49 : decode cX6_dayIn 49 = .ok (.aload_n 0, 1) := by decide +kernel
theorem dX6_dayIn_50 : decode cX6_dayIn 50 = .ok (.bipush 20, 2) := by decide +kernel
theorem dX6_dayIn_52 : decode cX6_dayIn 52 = .ok (.iload_n 2, 1) := by decide +kernel
theorem dX6_dayIn_53 : decode cX6_dayIn 53 = .ok (.iadd, 1) := by decide +kernel
theorem dX6_dayIn_54 : decode cX6_dayIn 54 = .ok (.iaload, 1) := by decide +kernel
theorem dX6_dayIn_55 : decode cX6_dayIn 55 = .ok (.if_icmp .le 12, 3) := by decide +kernel
theorem dX6_dayIn_58 : decode cX6_dayIn 58 = .ok (.aload_n 0, 1) := by decide +kernel
theorem dX6_dayIn_59 : decode cX6_dayIn 59 = .ok (.bipush 20, 2) := by decide +kernel
theorem dX6_dayIn_61 : decode cX6_dayIn 61 = .ok (.iload_n 2, 1) := by decide +kernel
theorem dX6_dayIn_62 : decode cX6_dayIn 62 = .ok (.iadd, 1) := by decide +kernel
theorem dX6_dayIn_63 : decode cX6_dayIn 63 = .ok (.iaload, 1) := by decide +kernel
theorem dX6_dayIn_64 : decode cX6_dayIn 64 = .ok (.goto 4, 3) := by decide +kernel
theorem dX6_dayIn_67 : decode cX6_dayIn 67 = .ok (.iload_n 3, 1) := by decide +kernel
theorem dX6_dayIn_68 : decode cX6_dayIn 68 = .ok (.iastore, 1) := by decide +kernel
theorem dX6_dayIn_69 : decode cX6_dayIn 69 = .ok (.iinc 2 1, 3) := by decide +kernel
theorem dX6_dayIn_72 : decode cX6_dayIn 72 = .ok (.goto (-65), 3) := by decide +kernel
theorem dX6_dayIn_75 : decode cX6_dayIn 75 = .ok (.aload_n 0, 1) := by decide +kernel
theorem dX6_dayIn_76 : decode cX6_dayIn 76 = .ok (.iconst 0, 1) := by decide +kernel
theorem dX6_dayIn_77 : decode cX6_dayIn 77 = .ok (.dup2, 1) := by decide +kernel
theorem dX6_dayIn_78 : decode cX6_dayIn 78 = .ok (.iaload, 1) := by decide +kernel
theorem dX6_dayIn_79 : decode cX6_dayIn 79 = .ok (.iconst 1, 1) := by decide +kernel
theorem dX6_dayIn_80 : decode cX6_dayIn 80 = .ok (.iadd, 1) := by decide +kernel
theorem dX6_dayIn_81 : decode cX6_dayIn 81 = .ok (.iastore, 1) := by decide +kernel
theorem dX6_dayIn_82 : decode cX6_dayIn 82 = .ok (.return_, 1) := by decide +kernel
set_option maxRecDepth 20000 in
theorem ggX6_days_X6_in : GoodIn wsX6_days wsX6_in := goodIn_r _ [5] (by decide +kernel) (by decide +kernel)
set_option maxRecDepth 20000 in
theorem gX6_days_X6_in : GoodIn wsX6_days (va_wsS RX6 38 yX6_in wsX6_in) := goodIn_app (goodIn_of _ (by decide +kernel)) ggX6_days_X6_in
set_option maxRecDepth 20000 in
theorem ggX6_days_X6_note : GoodIn wsX6_days wsX6_note := goodIn_r _ [9, 1, 10, 11, 4, 12, 34, 35, 36, 37, 38, 39, 40, 41, 42, 43, 44, 45, 46, 47, 48] (by decide +kernel) (by decide +kernel)
set_option maxRecDepth 20000 in
theorem gX6_days_X6_note : GoodIn wsX6_days (wsV RX6 128 RX6 yX6_note wsX6_note) := goodIn_app (goodIn_of _ (by decide +kernel)) ggX6_days_X6_note
set_option maxRecDepth 20000 in
theorem ggX6_days_X6_dayIn : GoodIn wsX6_days wsX6_dayIn := goodIn_r _ [15, 16, 17, 4, 18, 19, 20, 21, 22, 23, 24, 25, 26, 27, 28, 29, 30, 31, 32, 33] (by decide +kernel) (by decide +kernel)
set_option maxRecDepth 20000 in
theorem gX6_days_X6_dayIn : GoodIn wsX6_days (va_wsS RX6 131 yX6_dayIn wsX6_dayIn) := goodIn_app (goodIn_of _ (by decide +kernel)) ggX6_days_X6_dayIn
set_option maxRecDepth 20000 in
theorem ggX6_days_X6_bentOnes : GoodIn wsX6_days wsX6_bentOnes := goodIn_r _ [18, 19, 20, 4, 21, 22, 23, 24, 25, 26, 27, 28, 29, 30, 31, 32, 33] (by decide +kernel) (by decide +kernel)
set_option maxRecDepth 20000 in
theorem gX6_days_X6_bentOnes : GoodIn wsX6_days (va_wsS RX6 118 yX6_bentOnes wsX6_bentOnes) := goodIn_app (goodIn_of _ (by decide +kernel)) ggX6_days_X6_bentOnes
theorem dX6_days_0 : decode cX6_days 0 = .ok (.iload_n 1, 1) := by decide +kernel
theorem dX6_days_1 : decode cX6_days 1 = .ok (.iconst 1, 1) := by decide +kernel
theorem dX6_days_2 : decode cX6_days 2 = .ok (.bipush 40, 2) := by decide +kernel
theorem dX6_days_4 : decode cX6_days 4 = .ok (.invokestatic 38, 3) := by decide +kernel
theorem dX6_days_7 : decode cX6_days 7 = .ok (.ifCond .ne 5, 3) := by decide +kernel
theorem dX6_days_10 : decode cX6_days 10 = .ok (.iconst (-1), 1) := by decide +kernel
theorem dX6_days_11 : decode cX6_days 11 = .ok (.ireturn, 1) := by decide +kernel
theorem dX6_days_12 : decode cX6_days 12 = .ok (.aload_n 0, 1) := by decide +kernel
theorem dX6_days_13 : decode cX6_days 13 = .ok (.getfield 23, 3) := by decide +kernel
theorem dX6_days_16 : decode cX6_days 16 = .ok (.iconst 0, 1) := by decide +kernel
theorem dX6_days_17 : decode cX6_days 17 = .ok (.iaload, 1) := by decide +kernel
theorem dX6_days_18 : decode cX6_days 18 = .ok (.iload_n 1, 1) := by decide +kernel
theorem dX6_days_19 : decode cX6_days 19 = .ok (.iadd, 1) := by decide +kernel
theorem dX6_days_20 : decode cX6_days 20 = .ok (.sipush 9999, 3) := by decide +kernel
theorem dX6_days_23 : decode cX6_days 23 = .ok (.if_icmp .le 6, 3) := by decide +kernel
theorem dX6_days_26 : decode cX6_days 26 = .ok (.bipush (-3), 2) := by decide +kernel
theorem dX6_days_28 : decode cX6_days 28 = .ok (.ireturn, 1) := by decide +kernel
theorem dX6_days_29 : decode cX6_days 29 = .ok (.iconst 0, 1) := by decide +kernel
theorem dX6_days_30 : decode cX6_days 30 = .ok (.istore_n 2, 1) := by decide +kernel
theorem dX6_days_31 : decode cX6_days 31 = .ok (.iload_n 2, 1) := by decide +kernel
theorem dX6_days_32 : decode cX6_days 32 = .ok (.iload_n 1, 1) := by decide +kernel
theorem dX6_days_33 : decode cX6_days 33 = .ok (.if_icmp .ge 20, 3) := by decide +kernel
theorem dX6_days_36 : decode cX6_days 36 = .ok (.aload_n 0, 1) := by decide +kernel
theorem dX6_days_37 : decode cX6_days 37 = .ok (.invokevirtual 128, 3) := by decide +kernel
theorem dX6_days_40 : decode cX6_days 40 = .ok (.aload_n 0, 1) := by decide +kernel
theorem dX6_days_41 : decode cX6_days 41 = .ok (.getfield 23, 3) := by decide +kernel
theorem dX6_days_44 : decode cX6_days 44 = .ok (.invokestatic 131, 3) := by decide +kernel
theorem dX6_days_47 : decode cX6_days 47 = .ok (.iinc 2 1, 3) := by decide +kernel
theorem dX6_days_50 : decode cX6_days 50 = .ok (.goto (-19), 3) := by decide +kernel
theorem dX6_days_53 : decode cX6_days 53 = .ok (.aload_n 0, 1) := by decide +kernel
theorem dX6_days_54 : decode cX6_days 54 = .ok (.getfield 23, 3) := by decide +kernel
theorem dX6_days_57 : decode cX6_days 57 = .ok (.invokestatic 118, 3) := by decide +kernel
theorem dX6_days_60 : decode cX6_days 60 = .ok (.ireturn, 1) := by decide +kernel
set_option maxRecDepth 20000 in
theorem ggX6_drift_X6_in : GoodIn wsX6_drift wsX6_in := goodIn_r _ [9] (by decide +kernel) (by decide +kernel)
set_option maxRecDepth 20000 in
theorem gX6_drift_X6_in : GoodIn wsX6_drift (va_wsS RX6 38 yX6_in wsX6_in) := goodIn_app (goodIn_of _ (by decide +kernel)) ggX6_drift_X6_in
set_option maxRecDepth 20000 in
theorem ggX6_drift_X6_note : GoodIn wsX6_drift wsX6_note := goodIn_r _ [13, 1, 14, 15, 8, 16, 38, 39, 40, 41, 42, 43, 44, 45, 46, 47, 48, 49, 50, 51, 52] (by decide +kernel) (by decide +kernel)
set_option maxRecDepth 20000 in
theorem gX6_drift_X6_note : GoodIn wsX6_drift (wsV RX6 128 RX6 yX6_note wsX6_note) := goodIn_app (goodIn_of _ (by decide +kernel)) ggX6_drift_X6_note
set_option maxRecDepth 20000 in
theorem ggX6_drift_X6_dayIn : GoodIn wsX6_drift wsX6_dayIn := goodIn_r _ [19, 20, 21, 8, 22, 23, 24, 25, 26, 27, 28, 29, 30, 31, 32, 33, 34, 35, 36, 37] (by decide +kernel) (by decide +kernel)
set_option maxRecDepth 20000 in
theorem gX6_drift_X6_dayIn : GoodIn wsX6_drift (va_wsS RX6 131 yX6_dayIn wsX6_dayIn) := goodIn_app (goodIn_of _ (by decide +kernel)) ggX6_drift_X6_dayIn
set_option maxRecDepth 20000 in
theorem ggX6_drift_X6_bentOnes : GoodIn wsX6_drift wsX6_bentOnes := goodIn_r _ [22, 23, 24, 8, 25, 26, 27, 28, 29, 30, 31, 32, 33, 34, 35, 36, 37] (by decide +kernel) (by decide +kernel)
set_option maxRecDepth 20000 in
theorem gX6_drift_X6_bentOnes : GoodIn wsX6_drift (va_wsS RX6 118 yX6_bentOnes wsX6_bentOnes) := goodIn_app (goodIn_of _ (by decide +kernel)) ggX6_drift_X6_bentOnes
theorem dX6_drift_0 : decode cX6_drift 0 = .ok (.iload_n 1, 1) := by decide +kernel
theorem dX6_drift_1 : decode cX6_drift 1 = .ok (.iconst 1, 1) := by decide +kernel
theorem dX6_drift_2 : decode cX6_drift 2 = .ok (.bipush 40, 2) := by decide +kernel
theorem dX6_drift_4 : decode cX6_drift 4 = .ok (.invokestatic 38, 3) := by decide +kernel
theorem dX6_drift_7 : decode cX6_drift 7 = .ok (.ifCond .ne 5, 3) := by decide +kernel
theorem dX6_drift_10 : decode cX6_drift 10 = .ok (.iconst (-1), 1) := by decide +kernel
theorem dX6_drift_11 : decode cX6_drift 11 = .ok (.ireturn, 1) := by decide +kernel
theorem dX6_drift_12 : decode cX6_drift 12 = .ok (.aload_n 0, 1) := by decide +kernel
theorem dX6_drift_13 : decode cX6_drift 13 = .ok (.getfield 23, 3) := by decide +kernel
theorem dX6_drift_16 : decode cX6_drift 16 = .ok (.iconst 0, 1) := by decide +kernel
theorem dX6_drift_17 : decode cX6_drift 17 = .ok (.iaload, 1) := by decide +kernel
theorem dX6_drift_18 : decode cX6_drift 18 = .ok (.iload_n 1, 1) := by decide +kernel
theorem dX6_drift_19 : decode cX6_drift 19 = .ok (.iadd, 1) := by decide +kernel
theorem dX6_drift_20 : decode cX6_drift 20 = .ok (.sipush 9999, 3) := by decide +kernel
theorem dX6_drift_23 : decode cX6_drift 23 = .ok (.if_icmp .le 6, 3) := by decide +kernel
theorem dX6_drift_26 : decode cX6_drift 26 = .ok (.bipush (-3), 2) := by decide +kernel
theorem dX6_drift_28 : decode cX6_drift 28 = .ok (.ireturn, 1) := by decide +kernel
theorem dX6_drift_29 : decode cX6_drift 29 = .ok (.iconst 0, 1) := by decide +kernel
theorem dX6_drift_30 : decode cX6_drift 30 = .ok (.istore_n 2, 1) := by decide +kernel
theorem dX6_drift_31 : decode cX6_drift 31 = .ok (.iload_n 2, 1) := by decide +kernel
theorem dX6_drift_32 : decode cX6_drift 32 = .ok (.iload_n 1, 1) := by decide +kernel
theorem dX6_drift_33 : decode cX6_drift 33 = .ok (.if_icmp .ge 99, 3) := by decide +kernel
theorem dX6_drift_36 : decode cX6_drift 36 = .ok (.aload_n 0, 1) := by decide +kernel
theorem dX6_drift_37 : decode cX6_drift 37 = .ok (.invokevirtual 128, 3) := by decide +kernel
theorem dX6_drift_40 : decode cX6_drift 40 = .ok (.aload_n 0, 1) := by decide +kernel
theorem dX6_drift_41 : decode cX6_drift 41 = .ok (.getfield 23, 3) := by decide +kernel
theorem dX6_drift_44 : decode cX6_drift 44 = .ok (.iconst 1, 1) := by decide +kernel
theorem dX6_drift_45 : decode cX6_drift 45 = .ok (.aload_n 0, 1) := by decide +kernel
theorem dX6_drift_46 : decode cX6_drift 46 = .ok (.getfield 23, 3) := by decide +kernel
theorem dX6_drift_49 : decode cX6_drift 49 = .ok (.iconst 1, 1) := by decide +kernel
theorem dX6_drift_50 : decode cX6_drift 50 = .ok (.iaload, 1) := by decide +kernel
theorem dX6_drift_51 : decode cX6_drift 51 = .ok (.i2l, 1) := by decide +kernel
theorem dX6_drift_52 : decode cX6_drift 52 = .ok (.ldc2_w 135, 3) := by decide +kernel
theorem dX6_drift_55 : decode cX6_drift 55 = .ok (.lmul, 1) := by decide +kernel
theorem dX6_drift_56 : decode cX6_drift 56 = .ok (.ldc2_w 137, 3) := by decide +kernel
theorem dX6_drift_59 : decode cX6_drift 59 = .ok (.ladd, 1) := by decide +kernel
theorem dX6_drift_60 : decode cX6_drift 60 = .ok (.ldc2_w 139, 3) := by decide +kernel
theorem dX6_drift_63 : decode cX6_drift 63 = .ok (.lrem, 1) := by decide +kernel
theorem dX6_drift_64 : decode cX6_drift 64 = .ok (.l2i, 1) := by decide +kernel
theorem dX6_drift_65 : decode cX6_drift 65 = .ok (.iastore, 1) := by decide +kernel
theorem dX6_drift_66 : decode cX6_drift 66 = .ok (.aload_n 0, 1) := by decide +kernel
theorem dX6_drift_67 : decode cX6_drift 67 = .ok (.getfield 23, 3) := by decide +kernel
theorem dX6_drift_70 : decode cX6_drift 70 = .ok (.bipush 25, 2) := by decide +kernel
theorem dX6_drift_72 : decode cX6_drift 72 = .ok (.iaload, 1) := by decide +kernel
theorem dX6_drift_73 : decode cX6_drift 73 = .ok (.ifCond .le 46, 3) := by decide +kernel
theorem dX6_drift_76 : decode cX6_drift 76 = .ok (.aload_n 0, 1) := by decide +kernel
theorem dX6_drift_77 : decode cX6_drift 77 = .ok (.getfield 23, 3) := by decide +kernel
theorem dX6_drift_80 : decode cX6_drift 80 = .ok (.bipush 13, 2) := by decide +kernel
theorem dX6_drift_82 : decode cX6_drift 82 = .ok (.aload_n 0, 1) := by decide +kernel
theorem dX6_drift_83 : decode cX6_drift 83 = .ok (.getfield 23, 3) := by decide +kernel
theorem dX6_drift_86 : decode cX6_drift 86 = .ok (.iconst 1, 1) := by decide +kernel
theorem dX6_drift_87 : decode cX6_drift 87 = .ok (.iaload, 1) := by decide +kernel
theorem dX6_drift_88 : decode cX6_drift 88 = .ok (.ldc 141, 2) := by decide +kernel
theorem dX6_drift_90 : decode cX6_drift 90 = .ok (.idiv, 1) := by decide +kernel
theorem dX6_drift_91 : decode cX6_drift 91 = .ok (.aload_n 0, 1) := by decide +kernel
theorem dX6_drift_92 : decode cX6_drift 92 = .ok (.getfield 23, 3) := by decide +kernel
theorem dX6_drift_95 : decode cX6_drift 95 = .ok (.bipush 25, 2) := by decide +kernel
theorem dX6_drift_97 : decode cX6_drift 97 = .ok (.iaload, 1) := by decide +kernel
theorem dX6_drift_98 : decode cX6_drift 98 = .ok (.irem, 1) := by decide +kernel
theorem dX6_drift_99 : decode cX6_drift 99 = .ok (.iadd, 1) := by decide +kernel
theorem dX6_drift_100 : decode cX6_drift 100 = .ok (.aload_n 0, 1) := by decide +kernel
theorem dX6_drift_101 : decode cX6_drift 101 = .ok (.getfield 23, 3) := by decide +kernel
theorem dX6_drift_104 : decode cX6_drift 104 = .ok (.iconst 1, 1) := by decide +kernel
theorem dX6_drift_105 : decode cX6_drift 105 = .ok (.iaload, 1) := by decide +kernel
theorem dX6_drift_106 : decode cX6_drift 106 = .ok (.sipush 128, 3) := by decide +kernel
theorem dX6_drift_109 : decode cX6_drift 109 = .ok (.idiv, 1) := by decide +kernel
theorem dX6_drift_110 : decode cX6_drift 110 = .ok (.aload_n 0, 1) := by decide +kernel
theorem dX6_drift_111 : decode cX6_drift 111 = .ok (.getfield 23, 3) := by decide +kernel
theorem dX6_drift_114 : decode cX6_drift 114 = .ok (.bipush 19, 2) := by decide +kernel
theorem dX6_drift_116 : decode cX6_drift 116 = .ok (.iaload, 1) := by decide +kernel
theorem dX6_drift_117 : decode cX6_drift 117 = .ok (.irem, 1) := by decide +kernel
theorem dX6_drift_118 : decode cX6_drift 118 = .ok (.iastore, 1) := by decide +kernel
theorem dX6_drift_119 : decode cX6_drift 119 = .ok (.aload_n 0, 1) := by decide +kernel
theorem dX6_drift_120 : decode cX6_drift 120 = .ok (.getfield 23, 3) := by decide +kernel
theorem dX6_drift_123 : decode cX6_drift 123 = .ok (.invokestatic 131, 3) := by decide +kernel
theorem dX6_drift_126 : decode cX6_drift 126 = .ok (.iinc 2 1, 3) := by decide +kernel
theorem dX6_drift_129 : decode cX6_drift 129 = .ok (.goto (-98), 3) := by decide +kernel
theorem dX6_drift_132 : decode cX6_drift 132 = .ok (.aload_n 0, 1) := by decide +kernel
theorem dX6_drift_133 : decode cX6_drift 133 = .ok (.getfield 23, 3) := by decide +kernel
theorem dX6_drift_136 : decode cX6_drift 136 = .ok (.invokestatic 118, 3) := by decide +kernel
theorem dX6_drift_139 : decode cX6_drift 139 = .ok (.ireturn, 1) := by decide +kernel
set_option maxRecDepth 20000 in
theorem ggX6_begin_X6_bring : GoodIn wsX6_begin wsX6_bring := goodIn_r _ [6] (by decide +kernel) (by decide +kernel)
set_option maxRecDepth 20000 in
theorem gX6_begin_X6_bring : GoodIn wsX6_begin (va_wsS RX6 114 yX6_bring wsX6_bring) := goodIn_app (goodIn_of _ (by decide +kernel)) ggX6_begin_X6_bring
theorem dX6_begin_0 : decode cX6_begin 0 = .ok (.aload_n 0, 1) := by decide +kernel
theorem dX6_begin_1 : decode cX6_begin 1 = .ok (.getfield 23, 3) := by decide +kernel
theorem dX6_begin_4 : decode cX6_begin 4 = .ok (.iconst 0, 1) := by decide +kernel
theorem dX6_begin_5 : decode cX6_begin 5 = .ok (.aload_n 0, 1) := by decide +kernel
theorem dX6_begin_6 : decode cX6_begin 6 = .ok (.getfield 26, 3) := by decide +kernel
theorem dX6_begin_9 : decode cX6_begin 9 = .ok (.iconst 0, 1) := by decide +kernel
theorem dX6_begin_10 : decode cX6_begin 10 = .ok (.bipush 38, 2) := by decide +kernel
theorem dX6_begin_12 : decode cX6_begin 12 = .ok (.invokestatic 114, 3) := by decide +kernel
theorem dX6_begin_15 : decode cX6_begin 15 = .ok (.return_, 1) := by decide +kernel
set_option maxRecDepth 20000 in
theorem ggX6_goOn_X6_dayIn : GoodIn wsX6_goOn wsX6_dayIn := goodIn_r _ [5, 6, 7, 4, 8, 9, 10, 11, 12, 13, 14, 15, 16, 17, 18, 19, 20, 21, 22, 23] (by decide +kernel) (by decide +kernel)
set_option maxRecDepth 20000 in
theorem gX6_goOn_X6_dayIn : GoodIn wsX6_goOn (va_wsS RX6 131 yX6_dayIn wsX6_dayIn) := goodIn_app (goodIn_of _ (by decide +kernel)) ggX6_goOn_X6_dayIn
theorem dX6_goOn_0 : decode cX6_goOn 0 = .ok (.iconst 0, 1) := by decide +kernel
theorem dX6_goOn_1 : decode cX6_goOn 1 = .ok (.istore_n 2, 1) := by decide +kernel
theorem dX6_goOn_2 : decode cX6_goOn 2 = .ok (.iload_n 2, 1) := by decide +kernel
theorem dX6_goOn_3 : decode cX6_goOn 3 = .ok (.iload_n 1, 1) := by decide +kernel
theorem dX6_goOn_4 : decode cX6_goOn 4 = .ok (.if_icmp .ge 16, 3) := by decide +kernel
theorem dX6_goOn_7 : decode cX6_goOn 7 = .ok (.aload_n 0, 1) := by decide +kernel
theorem dX6_goOn_8 : decode cX6_goOn 8 = .ok (.getfield 26, 3) := by decide +kernel
theorem dX6_goOn_11 : decode cX6_goOn 11 = .ok (.invokestatic 131, 3) := by decide +kernel
theorem dX6_goOn_14 : decode cX6_goOn 14 = .ok (.iinc 2 1, 3) := by decide +kernel
theorem dX6_goOn_17 : decode cX6_goOn 17 = .ok (.goto (-15), 3) := by decide +kernel
theorem dX6_goOn_20 : decode cX6_goOn 20 = .ok (.return_, 1) := by decide +kernel
set_option maxRecDepth 20000 in
theorem ggX6_ahead_X6_isMan : GoodIn wsX6_ahead wsX6_isMan := goodIn_r _ [6, 7, 8, 9, 5, 10, 43, 44, 45, 46, 47, 48, 49, 50, 51, 52, 53, 54, 55, 56, 57] (by decide +kernel) (by decide +kernel)
set_option maxRecDepth 20000 in
theorem gX6_ahead_X6_isMan : GoodIn wsX6_ahead (wsV RX6 46 RX6 yX6_isMan wsX6_isMan) := goodIn_app (goodIn_of _ (by decide +kernel)) ggX6_ahead_X6_isMan
set_option maxRecDepth 20000 in
theorem ggX6_ahead_X6_in : GoodIn wsX6_ahead wsX6_in := goodIn_r _ [10] (by decide +kernel) (by decide +kernel)
set_option maxRecDepth 20000 in
theorem gX6_ahead_X6_in : GoodIn wsX6_ahead (va_wsS RX6 38 yX6_in wsX6_in) := goodIn_app (goodIn_of _ (by decide +kernel)) ggX6_ahead_X6_in
set_option maxRecDepth 20000 in
theorem ggX6_ahead_X6_begin : GoodIn wsX6_ahead wsX6_begin := goodIn_r _ [14, 7, 1, 15, 16, 5, 17, 43, 44, 45, 46, 47, 48, 49, 50, 51, 52, 53, 54, 55, 56, 57] (by decide +kernel) (by decide +kernel)
set_option maxRecDepth 20000 in
theorem gX6_ahead_X6_begin : GoodIn wsX6_ahead (wsV RX6 142 RX6 yX6_begin wsX6_begin) := goodIn_app (goodIn_of _ (by decide +kernel)) ggX6_ahead_X6_begin
set_option maxRecDepth 20000 in
theorem ggX6_ahead_X6_goOn : GoodIn wsX6_ahead wsX6_goOn := goodIn_r _ [21, 1, 22, 23, 5, 24, 25, 26, 27, 28, 29, 30, 31, 32, 33, 34, 35, 36, 37, 38, 39, 40, 41, 42, 43, 44, 45, 46, 47, 48, 49, 50, 51, 52, 53, 54, 55, 56, 57] (by decide +kernel) (by decide +kernel)
set_option maxRecDepth 20000 in
theorem gX6_ahead_X6_goOn : GoodIn wsX6_ahead (wsV RX6 145 RX6 yX6_goOn wsX6_goOn) := goodIn_app (goodIn_of _ (by decide +kernel)) ggX6_ahead_X6_goOn
set_option maxRecDepth 20000 in
theorem ggX6_ahead_X6_load : GoodIn wsX6_ahead wsX6_load := goodIn_r _ [33, 34, 35, 5, 36, 37, 38, 39, 40, 41, 42] (by decide +kernel) (by decide +kernel)
set_option maxRecDepth 20000 in
theorem gX6_ahead_X6_load : GoodIn wsX6_ahead (va_wsS RX6 64 yX6_load wsX6_load) := goodIn_app (goodIn_of _ (by decide +kernel)) ggX6_ahead_X6_load
theorem dX6_ahead_0 : decode cX6_ahead 0 = .ok (.aload_n 0, 1) := by decide +kernel
theorem dX6_ahead_1 : decode cX6_ahead 1 = .ok (.iload_n 1, 1) := by decide +kernel
theorem dX6_ahead_2 : decode cX6_ahead 2 = .ok (.invokevirtual 46, 3) := by decide +kernel
theorem dX6_ahead_5 : decode cX6_ahead 5 = .ok (.ifCond .eq 22, 3) := by decide +kernel
theorem dX6_ahead_8 : decode cX6_ahead 8 = .ok (.iload_n 2, 1) := by decide +kernel
theorem dX6_ahead_9 : decode cX6_ahead 9 = .ok (.iconst 0, 1) := by decide +kernel
theorem dX6_ahead_10 : decode cX6_ahead 10 = .ok (.bipush 60, 2) := by decide +kernel
theorem dX6_ahead_12 : decode cX6_ahead 12 = .ok (.invokestatic 38, 3) := by decide +kernel
theorem dX6_ahead_15 : decode cX6_ahead 15 = .ok (.ifCond .eq 12, 3) := by decide +kernel
theorem dX6_ahead_18 : decode cX6_ahead 18 = .ok (.iload_n 3, 1) := by decide +kernel
theorem dX6_ahead_19 : decode cX6_ahead 19 = .ok (.iconst 0, 1) := by decide +kernel
theorem dX6_ahead_20 : decode cX6_ahead 20 = .ok (.iconst 1, 1) := by decide +kernel
theorem dX6_ahead_21 : decode cX6_ahead 21 = .ok (.invokestatic 38, 3) := by decide +kernel
theorem dX6_ahead_24 : decode cX6_ahead 24 = .ok (.ifCond .ne 5, 3) := by decide +kernel
theorem dX6_ahead_27 : decode cX6_ahead 27 = .ok (.iconst (-1), 1) := by decide +kernel
theorem dX6_ahead_28 : decode cX6_ahead 28 = .ok (.ireturn, 1) := by decide +kernel
theorem dX6_ahead_29 : decode cX6_ahead 29 = .ok (.aload_n 0, 1) := by decide +kernel
theorem dX6_ahead_30 : decode cX6_ahead 30 = .ok (.invokevirtual 142, 3) := by decide +kernel
theorem dX6_ahead_33 : decode cX6_ahead 33 = .ok (.aload_n 0, 1) := by decide +kernel
theorem dX6_ahead_34 : decode cX6_ahead 34 = .ok (.iload_n 2, 1) := by decide +kernel
theorem dX6_ahead_35 : decode cX6_ahead 35 = .ok (.invokevirtual 145, 3) := by decide +kernel
theorem dX6_ahead_38 : decode cX6_ahead 38 = .ok (.iload_n 3, 1) := by decide +kernel
theorem dX6_ahead_39 : decode cX6_ahead 39 = .ok (.ifCond .ne 14, 3) := by decide +kernel
theorem dX6_ahead_42 : decode cX6_ahead 42 = .ok (.aload_n 0, 1) := by decide +kernel
theorem dX6_ahead_43 : decode cX6_ahead 43 = .ok (.getfield 26, 3) := by decide +kernel
theorem dX6_ahead_46 : decode cX6_ahead 46 = .ok (.iconst 2, 1) := by decide +kernel
theorem dX6_ahead_47 : decode cX6_ahead 47 = .ok (.iload_n 1, 1) := by decide +kernel
theorem dX6_ahead_48 : decode cX6_ahead 48 = .ok (.iadd, 1) := by decide +kernel
theorem dX6_ahead_49 : decode cX6_ahead 49 = .ok (.iaload, 1) := by decide +kernel
theorem dX6_ahead_50 : decode cX6_ahead 50 = .ok (.goto 11, 3) := by decide +kernel
theorem dX6_ahead_53 : decode cX6_ahead 53 = .ok (.aload_n 0, 1) := by decide +kernel
theorem dX6_ahead_54 : decode cX6_ahead 54 = .ok (.getfield 26, 3) := by decide +kernel
theorem dX6_ahead_57 : decode cX6_ahead 57 = .ok (.iload_n 1, 1) := by decide +kernel
theorem dX6_ahead_58 : decode cX6_ahead 58 = .ok (.invokestatic 64, 3) := by decide +kernel
theorem dX6_ahead_61 : decode cX6_ahead 61 = .ok (.ireturn, 1) := by decide +kernel
set_option maxRecDepth 20000 in
theorem ggX6_done_X6_isMan : GoodIn wsX6_done wsX6_isMan := goodIn_r _ [6, 7, 8, 9, 5, 10, 39, 40, 41, 42, 43, 44, 45, 46, 47, 48, 49, 50, 51, 52, 53] (by decide +kernel) (by decide +kernel)
set_option maxRecDepth 20000 in
theorem gX6_done_X6_isMan : GoodIn wsX6_done (wsV RX6 46 RX6 yX6_isMan wsX6_isMan) := goodIn_app (goodIn_of _ (by decide +kernel)) ggX6_done_X6_isMan
set_option maxRecDepth 20000 in
theorem ggX6_done_X6_begin : GoodIn wsX6_done wsX6_begin := goodIn_r _ [14, 7, 1, 15, 16, 5, 17, 39, 40, 41, 42, 43, 44, 45, 46, 47, 48, 49, 50, 51, 52, 53] (by decide +kernel) (by decide +kernel)
set_option maxRecDepth 20000 in
theorem gX6_done_X6_begin : GoodIn wsX6_done (wsV RX6 142 RX6 yX6_begin wsX6_begin) := goodIn_app (goodIn_of _ (by decide +kernel)) ggX6_done_X6_begin
set_option maxRecDepth 20000 in
theorem ggX6_done_X6_dayIn : GoodIn wsX6_done wsX6_dayIn := goodIn_r _ [20, 21, 22, 5, 23, 24, 25, 26, 27, 28, 29, 30, 31, 32, 33, 34, 35, 36, 37, 38] (by decide +kernel) (by decide +kernel)
set_option maxRecDepth 20000 in
theorem gX6_done_X6_dayIn : GoodIn wsX6_done (va_wsS RX6 131 yX6_dayIn wsX6_dayIn) := goodIn_app (goodIn_of _ (by decide +kernel)) ggX6_done_X6_dayIn
theorem dX6_done_0 : decode cX6_done 0 = .ok (.aload_n 0, 1) := by decide +kernel
theorem dX6_done_1 : decode cX6_done 1 = .ok (.iload_n 1, 1) := by decide +kernel
theorem dX6_done_2 : decode cX6_done 2 = .ok (.invokevirtual 46, 3) := by decide +kernel
theorem dX6_done_5 : decode cX6_done 5 = .ok (.ifCond .ne 5, 3) := by decide +kernel
theorem dX6_done_8 : decode cX6_done 8 = .ok (.iconst (-1), 1) := by decide +kernel
theorem dX6_done_9 : decode cX6_done 9 = .ok (.ireturn, 1) := by decide +kernel
theorem dX6_done_10 : decode cX6_done 10 = .ok (.aload_n 0, 1) := by decide +kernel
theorem dX6_done_11 : decode cX6_done 11 = .ok (.invokevirtual 142, 3) := by decide +kernel
theorem dX6_done_14 : decode cX6_done 14 = .ok (.iconst 0, 1) := by decide +kernel
theorem dX6_done_15 : decode cX6_done 15 = .ok (.istore_n 2, 1) := by decide +kernel
theorem dX6_done_16 : decode cX6_done 16 = .ok (.iload_n 2, 1) := by decide +kernel
theorem dX6_done_17 : decode cX6_done 17 = .ok (.bipush 60, 2) := by decide +kernel
theorem dX6_done_19 : decode cX6_done 19 = .ok (.if_icmp .gt 29, 3) := by decide +kernel
theorem dX6_done_22 : decode cX6_done 22 = .ok (.aload_n 0, 1) := by decide +kernel
theorem dX6_done_23 : decode cX6_done 23 = .ok (.getfield 26, 3) := by decide +kernel
theorem dX6_done_26 : decode cX6_done 26 = .ok (.iconst 2, 1) := by decide +kernel
theorem dX6_done_27 : decode cX6_done 27 = .ok (.iload_n 1, 1) := by decide +kernel
theorem dX6_done_28 : decode cX6_done 28 = .ok (.iadd, 1) := by decide +kernel
theorem dX6_done_29 : decode cX6_done 29 = .ok (.iaload, 1) := by decide +kernel
theorem dX6_done_30 : decode cX6_done 30 = .ok (.ifCond .ne 5, 3) := by decide +kernel
theorem dX6_done_33 : decode cX6_done 33 = .ok (.iload_n 2, 1) := by decide +kernel
theorem dX6_done_34 : decode cX6_done 34 = .ok (.ireturn, 1) := by decide +kernel
theorem dX6_done_35 : decode cX6_done 35 = .ok (.aload_n 0, 1) := by decide +kernel
theorem dX6_done_36 : decode cX6_done 36 = .ok (.getfield 26, 3) := by decide +kernel
theorem dX6_done_39 : decode cX6_done 39 = .ok (.invokestatic 131, 3) := by decide +kernel
theorem dX6_done_42 : decode cX6_done 42 = .ok (.iinc 2 1, 3) := by decide +kernel
theorem dX6_done_45 : decode cX6_done 45 = .ok (.goto (-29), 3) := by decide +kernel
theorem dX6_done_48 : decode cX6_done 48 = .ok (.bipush (-4), 2) := by decide +kernel
theorem dX6_done_50 : decode cX6_done 50 = .ok (.ireturn, 1) := by decide +kernel
theorem dX6_ways_0 : decode cX6_ways 0 = .ok (.iconst 1, 1) := by decide +kernel
theorem dX6_ways_1 : decode cX6_ways 1 = .ok (.istore_n 1, 1) := by decide +kernel
theorem dX6_ways_2 : decode cX6_ways 2 = .ok (.iconst 0, 1) := by decide +kernel
theorem dX6_ways_3 : decode cX6_ways 3 = .ok (.istore_n 2, 1) := by decide +kernel
theorem dX6_ways_4 : decode cX6_ways 4 = .ok (.iload_n 2, 1) := by decide +kernel
theorem dX6_ways_5 : decode cX6_ways 5 = .ok (.aload_n 0, 1) := by decide +kernel
theorem dX6_ways_6 : decode cX6_ways 6 = .ok (.getfield 23, 3) := by decide +kernel
theorem dX6_ways_9 : decode cX6_ways 9 = .ok (.bipush 25, 2) := by decide +kernel
theorem dX6_ways_11 : decode cX6_ways 11 = .ok (.iaload, 1) := by decide +kernel
theorem dX6_ways_12 : decode cX6_ways 12 = .ok (.if_icmp .ge 37, 3) := by decide +kernel
theorem dX6_ways_15 : decode cX6_ways 15 = .ok (.iload_n 1, 1) := by decide +kernel
theorem dX6_ways_16 : decode cX6_ways 16 = .ok (.aload_n 0, 1) := by decide +kernel
theorem dX6_ways_17 : decode cX6_ways 17 = .ok (.getfield 23, 3) := by decide +kernel
theorem dX6_ways_20 : decode cX6_ways 20 = .ok (.bipush 13, 2) := by decide +kernel
theorem dX6_ways_22 : decode cX6_ways 22 = .ok (.iload_n 2, 1) := by decide +kernel
theorem dX6_ways_23 : decode cX6_ways 23 = .ok (.iadd, 1) := by decide +kernel
theorem dX6_ways_24 : decode cX6_ways 24 = .ok (.iaload, 1) := by decide +kernel
theorem dX6_ways_25 : decode cX6_ways 25 = .ok (.bipush (-4), 2) := by decide +kernel
theorem dX6_ways_27 : decode cX6_ways 27 = .ok (.if_icmp .ne 7, 3) := by decide +kernel
theorem dX6_ways_30 : decode cX6_ways 30 = .ok (.iconst 1, 1) := by decide +kernel
theorem dX6_ways_31 : decode cX6_ways 31 = .ok (.goto 10, 3) := by decide +kernel
theorem dX6_ways_34 : decode cX6_ways 34 = .ok (.aload_n 0, 1) := by decide +kernel
theorem dX6_ways_35 : decode cX6_ways 35 = .ok (.getfield 23, 3) := by decide +kernel
theorem dX6_ways_38 : decode cX6_ways 38 = .ok (.bipush 19, 2) := by decide +kernel
theorem dX6_ways_40 : decode cX6_ways 40 = .ok (.iaload, 1) := by decide +kernel
theorem dX6_ways_41 : decode cX6_ways 41 = .ok (.imul, 1) := by decide +kernel
theorem dX6_ways_42 : decode cX6_ways 42 = .ok (.istore_n 1, 1) := by decide +kernel
theorem dX6_ways_43 : decode cX6_ways 43 = .ok (.iinc 2 1, 3) := by decide +kernel
theorem dX6_ways_46 : decode cX6_ways 46 = .ok (.goto (-42), 3) := by decide +kernel
theorem dX6_ways_49 : decode cX6_ways 49 = .ok (.iload_n 1, 1) := by decide +kernel
theorem dX6_ways_50 : decode cX6_ways 50 = .ok (.ireturn, 1) := by decide +kernel
set_option maxRecDepth 20000 in
theorem ggX6_hangBy_X6_begin : GoodIn wsX6_hangBy wsX6_begin := goodIn_r _ [7, 1, 2, 8, 9, 6, 10, 11, 12, 13, 14, 15, 16, 17, 18, 19, 20, 21, 22, 23, 24, 25] (by decide +kernel) (by decide +kernel)
set_option maxRecDepth 20000 in
theorem gX6_hangBy_X6_begin : GoodIn wsX6_hangBy (wsV RX6 142 RX6 yX6_begin wsX6_begin) := goodIn_app (goodIn_of _ (by decide +kernel)) ggX6_hangBy_X6_begin
theorem dX6_hangBy_0 : decode cX6_hangBy 0 = .ok (.aload_n 0, 1) := by decide +kernel
theorem dX6_hangBy_1 : decode cX6_hangBy 1 = .ok (.invokevirtual 142, 3) := by decide +kernel
theorem dX6_hangBy_4 : decode cX6_hangBy 4 = .ok (.iload_n 1, 1) := by decide +kernel
theorem dX6_hangBy_5 : decode cX6_hangBy 5 = .ok (.istore_n 2, 1) := by decide +kernel
theorem dX6_hangBy_6 : decode cX6_hangBy 6 = .ok (.iconst 0, 1) := by decide +kernel
theorem dX6_hangBy_7 : decode cX6_hangBy 7 = .ok (.istore_n 3, 1) := by decide +kernel
theorem dX6_hangBy_8 : decode cX6_hangBy 8 = .ok (.aload_n 0, 1) := by decide +kernel
theorem dX6_hangBy_9 : decode cX6_hangBy 9 = .ok (.getfield 23, 3) := by decide +kernel
theorem dX6_hangBy_12 : decode cX6_hangBy 12 = .ok (.bipush 25, 2) := by decide +kernel
theorem dX6_hangBy_14 : decode cX6_hangBy 14 = .ok (.iaload, 1) := by decide +kernel
theorem dX6_hangBy_15 : decode cX6_hangBy 15 = .ok (.iconst 1, 1) := by decide +kernel
theorem dX6_hangBy_16 : decode cX6_hangBy 16 = .ok (.isub, 1) := by decide +kernel
theorem dX6_hangBy_17 : decode cX6_hangBy 17 = .ok (.istore 4, 2) := by decide +kernel
theorem dX6_hangBy_19 : decode cX6_hangBy 19 = .ok (.iload 4, 2) := by decide +kernel
theorem dX6_hangBy_21 : decode cX6_hangBy 21 = .ok (.ifCond .lt 84, 3) := by decide +kernel
theorem dX6_hangBy_24 : decode cX6_hangBy 24 = .ok (.aload_n 0, 1) := by decide +kernel
theorem dX6_hangBy_25 : decode cX6_hangBy 25 = .ok (.getfield 23, 3) := by decide +kernel
theorem dX6_hangBy_28 : decode cX6_hangBy 28 = .ok (.bipush 13, 2) := by decide +kernel
theorem dX6_hangBy_30 : decode cX6_hangBy 30 = .ok (.iload 4, 2) := by decide +kernel
theorem dX6_hangBy_32 : decode cX6_hangBy 32 = .ok (.iadd, 1) := by decide +kernel
theorem dX6_hangBy_33 : decode cX6_hangBy 33 = .ok (.iaload, 1) := by decide +kernel
theorem dX6_hangBy_34 : decode cX6_hangBy 34 = .ok (.bipush (-4), 2) := by decide +kernel
theorem dX6_hangBy_36 : decode cX6_hangBy 36 = .ok (.if_icmp .eq 63, 3) := by decide +kernel
theorem dX6_hangBy_39 : decode cX6_hangBy 39 = .ok (.aload_n 0, 1) := by decide +kernel
theorem dX6_hangBy_40 : decode cX6_hangBy 40 = .ok (.getfield 26, 3) := by decide +kernel
theorem dX6_hangBy_43 : decode cX6_hangBy 43 = .ok (.bipush 13, 2) := by decide +kernel
theorem dX6_hangBy_45 : decode cX6_hangBy 45 = .ok (.iload 4, 2) := by decide +kernel
theorem dX6_hangBy_47 : decode cX6_hangBy 47 = .ok (.iadd, 1) := by decide +kernel
theorem dX6_hangBy_48 : decode cX6_hangBy 48 = .ok (.iload_n 2, 1) := by decide +kernel
theorem dX6_hangBy_49 : decode cX6_hangBy 49 = .ok (.aload_n 0, 1) := by decide +kernel
theorem dX6_hangBy_50 : decode cX6_hangBy 50 = .ok (.getfield 23, 3) := by decide +kernel
theorem dX6_hangBy_53 : decode cX6_hangBy 53 = .ok (.bipush 19, 2) := by decide +kernel
theorem dX6_hangBy_55 : decode cX6_hangBy 55 = .ok (.iaload, 1) := by decide +kernel
theorem dX6_hangBy_56 : decode cX6_hangBy 56 = .ok (.irem, 1) := by decide +kernel
theorem dX6_hangBy_57 : decode cX6_hangBy 57 = .ok (.iastore, 1) := by decide +kernel
theorem dX6_hangBy_58 : decode cX6_hangBy 58 = .ok (.iload_n 2, 1) := by decide +kernel
theorem dX6_hangBy_59 : decode cX6_hangBy 59 = .ok (.aload_n 0, 1) := by decide +kernel
theorem dX6_hangBy_60 : decode cX6_hangBy 60 = .ok (.getfield 23, 3) := by decide +kernel
theorem dX6_hangBy_63 : decode cX6_hangBy 63 = .ok (.bipush 19, 2) := by decide +kernel
theorem dX6_hangBy_65 : decode cX6_hangBy 65 = .ok (.iaload, 1) := by decide +kernel
theorem dX6_hangBy_66 : decode cX6_hangBy 66 = .ok (.idiv, 1) := by decide +kernel
theorem dX6_hangBy_67 : decode cX6_hangBy 67 = .ok (.istore_n 2, 1) := by decide +kernel
theorem dX6_hangBy_68 : decode cX6_hangBy 68 = .ok (.iload_n 3, 1) := by decide +kernel
theorem dX6_hangBy_69 : decode cX6_hangBy 69 = .ok (.aload_n 0, 1) := by decide +kernel
theorem dX6_hangBy_70 : decode cX6_hangBy 70 = .ok (.getfield 26, 3) := by decide +kernel
theorem dX6_hangBy_73 : decode cX6_hangBy 73 = .ok (.bipush 13, 2) := by decide +kernel
theorem dX6_hangBy_75 : decode cX6_hangBy 75 = .ok (.iload 4, 2) := by decide +kernel
theorem dX6_hangBy_77 : decode cX6_hangBy 77 = .ok (.iadd, 1) := by decide +kernel
theorem dX6_hangBy_78 : decode cX6_hangBy 78 = .ok (.iaload, 1) := by decide +kernel
theorem dX6_hangBy_79 : decode cX6_hangBy 79 = .ok (.aload_n 0, 1) := by decide +kernel
theorem dX6_hangBy_80 : decode cX6_hangBy 80 = .ok (.getfield 23, 3) := by decide +kernel
theorem dX6_hangBy_83 : decode cX6_hangBy 83 = .ok (.bipush 13, 2) := by decide +kernel
theorem dX6_hangBy_85 : decode cX6_hangBy 85 = .ok (.iload 4, 2) := by decide +kernel
theorem dX6_hangBy_87 : decode cX6_hangBy 87 = .ok (.iadd, 1) := by decide +kernel
theorem dX6_hangBy_88 : decode cX6_hangBy 88 = .ok (.iaload, 1) := by decide +kernel
theorem dX6_hangBy_89 : decode cX6_hangBy 89 = .ok (.if_icmp .ne 7, 3) := by decide +kernel
theorem dX6_hangBy_92 : decode cX6_hangBy 92 = .ok (.iconst 0, 1) := by decide +kernel
theorem dX6_hangBy_93 : decode cX6_hangBy 93 = .ok (.goto 4, 3) := by decide +kernel
theorem dX6_hangBy_96 : decode cX6_hangBy 96 = .ok (.iconst 1, 1) := by decide +kernel
theorem dX6_hangBy_97 : decode cX6_hangBy 97 = .ok (.iadd, 1) := by decide +kernel
theorem dX6_hangBy_98 : decode cX6_hangBy 98 = .ok (.istore_n 3, 1) := by decide +kernel
theorem dX6_hangBy_99 : decode cX6_hangBy 99 = .ok (.iinc 4 (-1), 3) := by decide +kernel
theorem dX6_hangBy_102 : decode cX6_hangBy 102 = .ok (.goto (-83), 3) := by decide +kernel
theorem dX6_hangBy_105 : decode cX6_hangBy 105 = .ok (.iload_n 3, 1) := by decide +kernel
theorem dX6_hangBy_106 : decode cX6_hangBy 106 = .ok (.ireturn, 1) := by decide +kernel
set_option maxRecDepth 20000 in
theorem ggX6_greatest_X6_load : GoodIn wsX6_greatest wsX6_load := goodIn_r _ [4, 5, 6, 3, 7, 8, 9, 10, 11, 12, 13] (by decide +kernel) (by decide +kernel)
set_option maxRecDepth 20000 in
theorem gX6_greatest_X6_load : GoodIn wsX6_greatest (va_wsS RX6 64 yX6_load wsX6_load) := goodIn_app (goodIn_of _ (by decide +kernel)) ggX6_greatest_X6_load
theorem dX6_greatest_0 : decode cX6_greatest 0 = .ok (.iconst 0, 1) := by decide +kernel
theorem dX6_greatest_1 : decode cX6_greatest 1 = .ok (.istore_n 1, 1) := by decide +kernel
theorem dX6_greatest_2 : decode cX6_greatest 2 = .ok (.iconst 0, 1) := by decide +kernel
theorem dX6_greatest_3 : decode cX6_greatest 3 = .ok (.istore_n 2, 1) := by decide +kernel
theorem dX6_greatest_4 : decode cX6_greatest 4 = .ok (.iload_n 2, 1) := by decide +kernel
theorem dX6_greatest_5 : decode cX6_greatest 5 = .ok (.aload_n 0, 1) := by decide +kernel
theorem dX6_greatest_6 : decode cX6_greatest 6 = .ok (.bipush 19, 2) := by decide +kernel
theorem dX6_greatest_8 : decode cX6_greatest 8 = .ok (.iaload, 1) := by decide +kernel
theorem dX6_greatest_9 : decode cX6_greatest 9 = .ok (.if_icmp .ge 28, 3) := by decide +kernel
theorem dX6_greatest_12 : decode cX6_greatest 12 = .ok (.aload_n 0, 1) := by decide +kernel
theorem dX6_greatest_13 : decode cX6_greatest 13 = .ok (.iload_n 2, 1) := by decide +kernel
theorem dX6_greatest_14 : decode cX6_greatest 14 = .ok (.invokestatic 64, 3) := by decide +kernel
theorem dX6_greatest_17 : decode cX6_greatest 17 = .ok (.iload_n 1, 1) := by decide +kernel
theorem dX6_greatest_18 : decode cX6_greatest 18 = .ok (.if_icmp .le 11, 3) := by decide +kernel
theorem dX6_greatest_21 : decode cX6_greatest 21 = .ok (.aload_n 0, 1) := by decide +kernel
theorem dX6_greatest_22 : decode cX6_greatest 22 = .ok (.iload_n 2, 1) := by decide +kernel
theorem dX6_greatest_23 : decode cX6_greatest 23 = .ok (.invokestatic 64, 3) := by decide +kernel
theorem dX6_greatest_26 : decode cX6_greatest 26 = .ok (.goto 4, 3) := by decide +kernel
theorem dX6_greatest_29 : decode cX6_greatest 29 = .ok (.iload_n 1, 1) := by decide +kernel
theorem dX6_greatest_30 : decode cX6_greatest 30 = .ok (.istore_n 1, 1) := by decide +kernel
theorem dX6_greatest_31 : decode cX6_greatest 31 = .ok (.iinc 2 1, 3) := by decide +kernel
theorem dX6_greatest_34 : decode cX6_greatest 34 = .ok (.goto (-30), 3) := by decide +kernel
theorem dX6_greatest_37 : decode cX6_greatest 37 = .ok (.iload_n 1, 1) := by decide +kernel
theorem dX6_greatest_38 : decode cX6_greatest 38 = .ok (.ireturn, 1) := by decide +kernel
set_option maxRecDepth 20000 in
theorem ggX6_layBest_X6_ways : GoodIn wsX6_layBest wsX6_ways := goodIn_r _ [9, 10, 43, 44, 45, 46, 47, 48, 49, 50, 51, 52, 53, 54, 55, 56, 57] (by decide +kernel) (by decide +kernel)
set_option maxRecDepth 20000 in
theorem gX6_layBest_X6_ways : GoodIn wsX6_layBest (wsV RX6 155 RX6 yX6_ways wsX6_ways) := goodIn_app (goodIn_of _ (by decide +kernel)) ggX6_layBest_X6_ways
set_option maxRecDepth 20000 in
theorem ggX6_layBest_X6_hangBy : GoodIn wsX6_layBest wsX6_hangBy := goodIn_r _ [14, 10, 3, 15, 16, 17, 8, 18, 19, 20, 21, 43, 44, 45, 46, 47, 48, 49, 50, 51, 52, 53, 54, 55, 56, 57] (by decide +kernel) (by decide +kernel)
set_option maxRecDepth 20000 in
theorem gX6_layBest_X6_hangBy : GoodIn wsX6_layBest (wsV RX6 158 RX6 yX6_hangBy wsX6_hangBy) := goodIn_app (goodIn_of _ (by decide +kernel)) ggX6_layBest_X6_hangBy
set_option maxRecDepth 20000 in
theorem ggX6_layBest_X6_greatest : GoodIn wsX6_layBest wsX6_greatest := goodIn_r _ [24, 25, 26, 8, 27, 28, 29, 30, 31, 32, 33, 34, 35, 36] (by decide +kernel) (by decide +kernel)
set_option maxRecDepth 20000 in
theorem gX6_layBest_X6_greatest : GoodIn wsX6_layBest (va_wsS RX6 161 yX6_greatest wsX6_greatest) := goodIn_app (goodIn_of _ (by decide +kernel)) ggX6_layBest_X6_greatest
set_option maxRecDepth 20000 in
theorem ggX6_layBest_X6_bentOnes : GoodIn wsX6_layBest wsX6_bentOnes := goodIn_r _ [39, 40, 41, 8, 42, 25, 26, 27, 28, 29, 30, 31, 32, 33, 34, 35, 36] (by decide +kernel) (by decide +kernel)
set_option maxRecDepth 20000 in
theorem gX6_layBest_X6_bentOnes : GoodIn wsX6_layBest (va_wsS RX6 118 yX6_bentOnes wsX6_bentOnes) := goodIn_app (goodIn_of _ (by decide +kernel)) ggX6_layBest_X6_bentOnes
set_option maxRecDepth 20000 in
theorem ggX6_layBest_X6_bits : GoodIn wsX6_layBest wsX6_bits := goodIn_r _ [36] (by decide +kernel) (by decide +kernel)
set_option maxRecDepth 20000 in
theorem gX6_layBest_X6_bits : GoodIn wsX6_layBest (va_wsS RX6 57 yX6_bits wsX6_bits) := goodIn_app (goodIn_of _ (by decide +kernel)) ggX6_layBest_X6_bits
set_option maxRecDepth 20000 in
theorem ggX6_layBest_X6_bring : GoodIn wsX6_layBest wsX6_bring := goodIn_r _ [21] (by decide +kernel) (by decide +kernel)
set_option maxRecDepth 20000 in
theorem gX6_layBest_X6_bring : GoodIn wsX6_layBest (va_wsS RX6 114 yX6_bring wsX6_bring) := goodIn_app (goodIn_of _ (by decide +kernel)) ggX6_layBest_X6_bring
theorem dX6_layBest_0 : decode cX6_layBest 0 = .ok (.aload_n 0, 1) := by decide +kernel
theorem dX6_layBest_1 : decode cX6_layBest 1 = .ok (.bipush (-4), 2) := by decide +kernel
theorem dX6_layBest_3 : decode cX6_layBest 3 = .ok (.putfield 149, 3) := by decide +kernel
theorem dX6_layBest_6 : decode cX6_layBest 6 = .ok (.aload_n 0, 1) := by decide +kernel
theorem dX6_layBest_7 : decode cX6_layBest 7 = .ok (.iconst 0, 1) := by decide +kernel
theorem dX6_layBest_8 : decode cX6_layBest 8 = .ok (.putfield 152, 3) := by decide +kernel
theorem dX6_layBest_11 : decode cX6_layBest 11 = .ok (.iconst 0, 1) := by decide +kernel
theorem dX6_layBest_12 : decode cX6_layBest 12 = .ok (.istore_n 2, 1) := by decide +kernel
theorem dX6_layBest_13 : decode cX6_layBest 13 = .ok (.iload_n 2, 1) := by decide +kernel
theorem dX6_layBest_14 : decode cX6_layBest 14 = .ok (.aload_n 0, 1) := by decide +kernel
theorem dX6_layBest_15 : decode cX6_layBest 15 = .ok (.invokevirtual 155, 3) := by decide +kernel
theorem dX6_layBest_18 : decode cX6_layBest 18 = .ok (.if_icmp .ge 119, 3) := by decide +kernel
theorem dX6_layBest_21 : decode cX6_layBest 21 = .ok (.aload_n 0, 1) := by decide +kernel
theorem dX6_layBest_22 : decode cX6_layBest 22 = .ok (.iload_n 2, 1) := by decide +kernel
theorem dX6_layBest_23 : decode cX6_layBest 23 = .ok (.invokevirtual 158, 3) := by decide +kernel
theorem dX6_layBest_26 : decode cX6_layBest 26 = .ok (.istore_n 3, 1) := by decide +kernel
theorem dX6_layBest_27 : decode cX6_layBest 27 = .ok (.iload_n 1, 1) := by decide +kernel
theorem dX6_layBest_28 : decode cX6_layBest 28 = .ok (.ifCond .eq 13, 3) := by decide +kernel
theorem dX6_layBest_31 : decode cX6_layBest 31 = .ok (.aload_n 0, 1) := by decide +kernel
theorem dX6_layBest_32 : decode cX6_layBest 32 = .ok (.getfield 26, 3) := by decide +kernel
theorem dX6_layBest_35 : decode cX6_layBest 35 = .ok (.invokestatic 161, 3) := by decide +kernel
theorem dX6_layBest_38 : decode cX6_layBest 38 = .ok (.goto 13, 3) := by decide +kernel
theorem dX6_layBest_41 : decode cX6_layBest 41 = .ok (.aload_n 0, 1) := by decide +kernel
theorem dX6_layBest_42 : decode cX6_layBest 42 = .ok (.getfield 26, 3) := by decide +kernel
theorem dX6_layBest_45 : decode cX6_layBest 45 = .ok (.invokestatic 118, 3) := by decide +kernel
theorem dX6_layBest_48 : decode cX6_layBest 48 = .ok (.invokestatic 57, 3) := by decide +kernel
theorem dX6_layBest_51 : decode cX6_layBest 51 = .ok (.istore 4, 2) := by decide +kernel
theorem dX6_layBest_53 : decode cX6_layBest 53 = .ok (.aload_n 0, 1) := by decide +kernel
theorem dX6_layBest_54 : decode cX6_layBest 54 = .ok (.getfield 149, 3) := by decide +kernel
theorem dX6_layBest_57 : decode cX6_layBest 57 = .ok (.bipush (-4), 2) := by decide +kernel
theorem dX6_layBest_59 : decode cX6_layBest 59 = .ok (.if_icmp .eq 33, 3) := by decide +kernel
theorem dX6_layBest_62 : decode cX6_layBest 62 = .ok (.iload 4, 2) := by decide +kernel
theorem dX6_layBest_64 : decode cX6_layBest 64 = .ok (.aload_n 0, 1) := by decide +kernel
theorem dX6_layBest_65 : decode cX6_layBest 65 = .ok (.getfield 149, 3) := by decide +kernel
theorem dX6_layBest_68 : decode cX6_layBest 68 = .ok (.if_icmp .lt 24, 3) := by decide +kernel
theorem dX6_layBest_71 : decode cX6_layBest 71 = .ok (.iload_n 1, 1) := by decide +kernel
theorem dX6_layBest_72 : decode cX6_layBest 72 = .ok (.ifCond .ne 24, 3) := by decide +kernel
theorem dX6_layBest_75 : decode cX6_layBest 75 = .ok (.iload 4, 2) := by decide +kernel
theorem dX6_layBest_77 : decode cX6_layBest 77 = .ok (.aload_n 0, 1) := by decide +kernel
theorem dX6_layBest_78 : decode cX6_layBest 78 = .ok (.getfield 149, 3) := by decide +kernel
theorem dX6_layBest_81 : decode cX6_layBest 81 = .ok (.if_icmp .ne 15, 3) := by decide +kernel
theorem dX6_layBest_84 : decode cX6_layBest 84 = .ok (.iload_n 3, 1) := by decide +kernel
theorem dX6_layBest_85 : decode cX6_layBest 85 = .ok (.aload_n 0, 1) := by decide +kernel
theorem dX6_layBest_86 : decode cX6_layBest 86 = .ok (.getfield 152, 3) := by decide +kernel
theorem dX6_layBest_89 : decode cX6_layBest 89 = .ok (.if_icmp .ge 7, 3) := by decide +kernel
theorem dX6_layBest_92 : decode cX6_layBest 92 = .ok (.iconst 1, 1) := by decide +kernel
theorem dX6_layBest_93 : decode cX6_layBest 93 = .ok (.goto 4, 3) := by decide +kernel
theorem dX6_layBest_96 : decode cX6_layBest 96 = .ok (.iconst 0, 1) := by decide +kernel
theorem dX6_layBest_97 : decode cX6_layBest 97 = .ok (.istore 5, 2) := by decide +kernel
theorem dX6_layBest_99 : decode cX6_layBest 99 = .ok (.iload 5, 2) := by decide +kernel
theorem dX6_layBest_101 : decode cX6_layBest 101 = .ok (.ifCond .eq 30, 3) := by decide +kernel
theorem dX6_layBest_104 : decode cX6_layBest 104 = .ok (.aload_n 0, 1) := by decide +kernel
theorem dX6_layBest_105 : decode cX6_layBest 105 = .ok (.iload 4, 2) := by decide +kernel
theorem dX6_layBest_107 : decode cX6_layBest 107 = .ok (.putfield 149, 3) := by decide +kernel
theorem dX6_layBest_110 : decode cX6_layBest 110 = .ok (.aload_n 0, 1) := by decide +kernel
theorem dX6_layBest_111 : decode cX6_layBest 111 = .ok (.iload_n 3, 1) := by decide +kernel
theorem dX6_layBest_112 : decode cX6_layBest 112 = .ok (.putfield 152, 3) := by decide +kernel
theorem dX6_layBest_115 : decode cX6_layBest 115 = .ok (.aload_n 0, 1) := by decide +kernel
theorem dX6_layBest_116 : decode cX6_layBest 116 = .ok (.getfield 26, 3) := by decide +kernel
theorem dX6_layBest_119 : decode cX6_layBest 119 = .ok (.bipush 13, 2) := by decide +kernel
theorem dX6_layBest_121 : decode cX6_layBest 121 = .ok (.aload_n 0, 1) := by decide +kernel
theorem dX6_layBest_122 : decode cX6_layBest 122 = .ok (.getfield 35, 3) := by decide +kernel
theorem dX6_layBest_125 : decode cX6_layBest 125 = .ok (.iconst 0, 1) := by decide +kernel
theorem dX6_layBest_126 : decode cX6_layBest 126 = .ok (.bipush 6, 2) := by decide +kernel
theorem dX6_layBest_128 : decode cX6_layBest 128 = .ok (.invokestatic 114, 3) := by decide +kernel
theorem dX6_layBest_131 : decode cX6_layBest 131 = .ok (.iinc 2 1, 3) := by decide +kernel
theorem dX6_layBest_134 : decode cX6_layBest 134 = .ok (.goto (-121), 3) := by decide +kernel
theorem dX6_layBest_137 : decode cX6_layBest 137 = .ok (.return_, 1) := by decide +kernel
set_option maxRecDepth 20000 in
theorem ggX6_even_X6_layBest : GoodIn wsX6_even wsX6_layBest := goodIn_r _ [7, 1, 8, 9, 2, 10, 11, 12, 6, 13, 14, 15, 16, 17, 18, 19, 20, 21, 22, 23, 24, 25, 26, 27, 28, 29, 30, 31, 32, 33, 34, 35, 36, 37, 38, 39, 40, 41, 42, 43, 44, 45, 46, 54, 55, 56, 57, 58, 59, 60, 61, 62, 63, 64, 65, 66, 67, 68] (by decide +kernel) (by decide +kernel)
set_option maxRecDepth 20000 in
theorem gX6_even_X6_layBest : GoodIn wsX6_even (wsV RX6 164 RX6 yX6_layBest wsX6_layBest) := goodIn_app (goodIn_of _ (by decide +kernel)) ggX6_even_X6_layBest
set_option maxRecDepth 20000 in
theorem ggX6_even_X6_isMedal : GoodIn wsX6_even wsX6_isMedal := goodIn_r _ [50, 14, 51, 52, 6, 53, 54, 55, 56, 57, 58, 59, 60, 61, 62, 63, 64, 65, 66, 67, 68] (by decide +kernel) (by decide +kernel)
set_option maxRecDepth 20000 in
theorem gX6_even_X6_isMedal : GoodIn wsX6_even (wsV RX6 74 RX6 yX6_isMedal wsX6_isMedal) := goodIn_app (goodIn_of _ (by decide +kernel)) ggX6_even_X6_isMedal
theorem dX6_even_0 : decode cX6_even 0 = .ok (.iload_n 1, 1) := by decide +kernel
theorem dX6_even_1 : decode cX6_even 1 = .ok (.iconst (-1), 1) := by decide +kernel
theorem dX6_even_2 : decode cX6_even 2 = .ok (.if_icmp .ge 5, 3) := by decide +kernel
theorem dX6_even_5 : decode cX6_even 5 = .ok (.iconst (-1), 1) := by decide +kernel
theorem dX6_even_6 : decode cX6_even 6 = .ok (.ireturn, 1) := by decide +kernel
theorem dX6_even_7 : decode cX6_even 7 = .ok (.aload_n 0, 1) := by decide +kernel
theorem dX6_even_8 : decode cX6_even 8 = .ok (.iconst 1, 1) := by decide +kernel
theorem dX6_even_9 : decode cX6_even 9 = .ok (.invokevirtual 164, 3) := by decide +kernel
theorem dX6_even_12 : decode cX6_even 12 = .ok (.iload_n 1, 1) := by decide +kernel
theorem dX6_even_13 : decode cX6_even 13 = .ok (.iconst (-1), 1) := by decide +kernel
theorem dX6_even_14 : decode cX6_even 14 = .ok (.if_icmp .ne 10, 3) := by decide +kernel
theorem dX6_even_17 : decode cX6_even 17 = .ok (.aload_n 0, 1) := by decide +kernel
theorem dX6_even_18 : decode cX6_even 18 = .ok (.getfield 149, 3) := by decide +kernel
theorem dX6_even_21 : decode cX6_even 21 = .ok (.goto 22, 3) := by decide +kernel
theorem dX6_even_24 : decode cX6_even 24 = .ok (.aload_n 0, 1) := by decide +kernel
theorem dX6_even_25 : decode cX6_even 25 = .ok (.iload_n 1, 1) := by decide +kernel
theorem dX6_even_26 : decode cX6_even 26 = .ok (.invokevirtual 74, 3) := by decide +kernel
theorem dX6_even_29 : decode cX6_even 29 = .ok (.ifCond .eq 12, 3) := by decide +kernel
theorem dX6_even_32 : decode cX6_even 32 = .ok (.aload_n 0, 1) := by decide +kernel
theorem dX6_even_33 : decode cX6_even 33 = .ok (.getfield 35, 3) := by decide +kernel
theorem dX6_even_36 : decode cX6_even 36 = .ok (.iload_n 1, 1) := by decide +kernel
theorem dX6_even_37 : decode cX6_even 37 = .ok (.iaload, 1) := by decide +kernel
theorem dX6_even_38 : decode cX6_even 38 = .ok (.goto 5, 3) := by decide +kernel
theorem dX6_even_41 : decode cX6_even 41 = .ok (.bipush (-4), 2) := by decide +kernel
theorem dX6_even_43 : decode cX6_even 43 = .ok (.ireturn, 1) := by decide +kernel
set_option maxRecDepth 20000 in
theorem ggX6_error_X6_isMan : GoodIn wsX6_error wsX6_isMan := goodIn_r _ [6, 7, 8, 9, 5, 10, 44, 45, 46, 47, 48, 49, 50, 51, 52, 53, 54, 55, 56, 57, 58] (by decide +kernel) (by decide +kernel)
set_option maxRecDepth 20000 in
theorem gX6_error_X6_isMan : GoodIn wsX6_error (wsV RX6 46 RX6 yX6_isMan wsX6_isMan) := goodIn_app (goodIn_of _ (by decide +kernel)) ggX6_error_X6_isMan
set_option maxRecDepth 20000 in
theorem ggX6_error_X6_in : GoodIn wsX6_error wsX6_in := goodIn_r _ [10] (by decide +kernel) (by decide +kernel)
set_option maxRecDepth 20000 in
theorem gX6_error_X6_in : GoodIn wsX6_error (va_wsS RX6 38 yX6_in wsX6_in) := goodIn_app (goodIn_of _ (by decide +kernel)) ggX6_error_X6_in
set_option maxRecDepth 20000 in
theorem ggX6_error_X6_ways : GoodIn wsX6_error wsX6_ways := goodIn_r _ [14, 7, 44, 45, 46, 47, 48, 49, 50, 51, 52, 53, 54, 55, 56, 57, 58] (by decide +kernel) (by decide +kernel)
set_option maxRecDepth 20000 in
theorem gX6_error_X6_ways : GoodIn wsX6_error (wsV RX6 155 RX6 yX6_ways wsX6_ways) := goodIn_app (goodIn_of _ (by decide +kernel)) ggX6_error_X6_ways
set_option maxRecDepth 20000 in
theorem ggX6_error_X6_hangBy : GoodIn wsX6_error wsX6_hangBy := goodIn_r _ [18, 7, 1, 19, 20, 21, 5, 22, 23, 24, 25, 44, 45, 46, 47, 48, 49, 50, 51, 52, 53, 54, 55, 56, 57, 58] (by decide +kernel) (by decide +kernel)
set_option maxRecDepth 20000 in
theorem gX6_error_X6_hangBy : GoodIn wsX6_error (wsV RX6 158 RX6 yX6_hangBy wsX6_hangBy) := goodIn_app (goodIn_of _ (by decide +kernel)) ggX6_error_X6_hangBy
set_option maxRecDepth 20000 in
theorem ggX6_error_X6_bentOnes : GoodIn wsX6_error wsX6_bentOnes := goodIn_r _ [28, 29, 30, 5, 31, 32, 33, 34, 35, 36, 37, 38, 39, 40, 41, 42, 43] (by decide +kernel) (by decide +kernel)
set_option maxRecDepth 20000 in
theorem gX6_error_X6_bentOnes : GoodIn wsX6_error (va_wsS RX6 118 yX6_bentOnes wsX6_bentOnes) := goodIn_app (goodIn_of _ (by decide +kernel)) ggX6_error_X6_bentOnes
set_option maxRecDepth 20000 in
theorem ggX6_error_X6_isBent : GoodIn wsX6_error wsX6_isBent := goodIn_r _ [31, 32, 33, 5, 34, 35, 36, 37, 38, 39, 40, 41, 42, 43] (by decide +kernel) (by decide +kernel)
set_option maxRecDepth 20000 in
theorem gX6_error_X6_isBent : GoodIn wsX6_error (va_wsS RX6 67 yX6_isBent wsX6_isBent) := goodIn_app (goodIn_of _ (by decide +kernel)) ggX6_error_X6_isBent
theorem dX6_error_0 : decode cX6_error 0 = .ok (.iload_n 1, 1) := by decide +kernel
theorem dX6_error_1 : decode cX6_error 1 = .ok (.iconst (-1), 1) := by decide +kernel
theorem dX6_error_2 : decode cX6_error 2 = .ok (.if_icmp .eq 11, 3) := by decide +kernel
theorem dX6_error_5 : decode cX6_error 5 = .ok (.aload_n 0, 1) := by decide +kernel
theorem dX6_error_6 : decode cX6_error 6 = .ok (.iload_n 1, 1) := by decide +kernel
theorem dX6_error_7 : decode cX6_error 7 = .ok (.invokevirtual 46, 3) := by decide +kernel
theorem dX6_error_10 : decode cX6_error 10 = .ok (.ifCond .eq 12, 3) := by decide +kernel
theorem dX6_error_13 : decode cX6_error 13 = .ok (.iload_n 2, 1) := by decide +kernel
theorem dX6_error_14 : decode cX6_error 14 = .ok (.iconst 0, 1) := by decide +kernel
theorem dX6_error_15 : decode cX6_error 15 = .ok (.iconst 1, 1) := by decide +kernel
theorem dX6_error_16 : decode cX6_error 16 = .ok (.invokestatic 38, 3) := by decide +kernel
theorem dX6_error_19 : decode cX6_error 19 = .ok (.ifCond .ne 5, 3) := by decide +kernel
theorem dX6_error_22 : decode cX6_error 22 = .ok (.iconst (-1), 1) := by decide +kernel
theorem dX6_error_23 : decode cX6_error 23 = .ok (.ireturn, 1) := by decide +kernel
theorem dX6_error_24 : decode cX6_error 24 = .ok (.iconst 0, 1) := by decide +kernel
theorem dX6_error_25 : decode cX6_error 25 = .ok (.istore_n 3, 1) := by decide +kernel
theorem dX6_error_26 : decode cX6_error 26 = .ok (.iconst 0, 1) := by decide +kernel
theorem dX6_error_27 : decode cX6_error 27 = .ok (.istore 4, 2) := by decide +kernel
theorem dX6_error_29 : decode cX6_error 29 = .ok (.iload 4, 2) := by decide +kernel
theorem dX6_error_31 : decode cX6_error 31 = .ok (.aload_n 0, 1) := by decide +kernel
theorem dX6_error_32 : decode cX6_error 32 = .ok (.invokevirtual 155, 3) := by decide +kernel
theorem dX6_error_35 : decode cX6_error 35 = .ok (.if_icmp .ge 62, 3) := by decide +kernel
theorem dX6_error_38 : decode cX6_error 38 = .ok (.aload_n 0, 1) := by decide +kernel
theorem dX6_error_39 : decode cX6_error 39 = .ok (.iload 4, 2) := by decide +kernel
theorem dX6_error_41 : decode cX6_error 41 = .ok (.invokevirtual 158, 3) := by decide +kernel
theorem dX6_error_44 : decode cX6_error 44 = .ok (.pop, 1) := by decide +kernel
theorem dX6_error_45 : decode cX6_error 45 = .ok (.iload_n 1, 1) := by decide +kernel
theorem dX6_error_46 : decode cX6_error 46 = .ok (.iconst (-1), 1) := by decide +kernel
theorem dX6_error_47 : decode cX6_error 47 = .ok (.if_icmp .ne 21, 3) := by decide +kernel
theorem dX6_error_50 : decode cX6_error 50 = .ok (.aload_n 0, 1) := by decide +kernel
theorem dX6_error_51 : decode cX6_error 51 = .ok (.getfield 26, 3) := by decide +kernel
theorem dX6_error_54 : decode cX6_error 54 = .ok (.invokestatic 118, 3) := by decide +kernel
theorem dX6_error_57 : decode cX6_error 57 = .ok (.ifCond .ne 7, 3) := by decide +kernel
theorem dX6_error_60 : decode cX6_error 60 = .ok (.iconst 1, 1) := by decide +kernel
theorem dX6_error_61 : decode cX6_error 61 = .ok (.goto 15, 3) := by decide +kernel
theorem dX6_error_64 : decode cX6_error 64 = .ok (.iconst 0, 1) := by decide +kernel
theorem dX6_error_65 : decode cX6_error 65 = .ok (.goto 11, 3) := by decide +kernel
theorem dX6_error_68 : decode cX6_error 68 = .ok (.aload_n 0, 1) := by decide +kernel
theorem dX6_error_69 : decode cX6_error 69 = .ok (.getfield 26, 3) := by decide +kernel
theorem dX6_error_72 : decode cX6_error 72 = .ok (.iload_n 1, 1) := by decide +kernel
theorem dX6_error_73 : decode cX6_error 73 = .ok (.invokestatic 67, 3) := by decide +kernel
theorem dX6_error_76 : decode cX6_error 76 = .ok (.istore 5, 2) := by decide +kernel
theorem dX6_error_78 : decode cX6_error 78 = .ok (.iload_n 3, 1) := by decide +kernel
theorem dX6_error_79 : decode cX6_error 79 = .ok (.iload 5, 2) := by decide +kernel
theorem dX6_error_81 : decode cX6_error 81 = .ok (.ifCond .eq 7, 3) := by decide +kernel
theorem dX6_error_84 : decode cX6_error 84 = .ok (.iconst 1, 1) := by decide +kernel
theorem dX6_error_85 : decode cX6_error 85 = .ok (.goto 4, 3) := by decide +kernel
theorem dX6_error_88 : decode cX6_error 88 = .ok (.iconst 0, 1) := by decide +kernel
theorem dX6_error_89 : decode cX6_error 89 = .ok (.iadd, 1) := by decide +kernel
theorem dX6_error_90 : decode cX6_error 90 = .ok (.istore_n 3, 1) := by decide +kernel
theorem dX6_error_91 : decode cX6_error 91 = .ok (.iinc 4 1, 3) := by decide +kernel
theorem dX6_error_94 : decode cX6_error 94 = .ok (.goto (-65), 3) := by decide +kernel
theorem dX6_error_97 : decode cX6_error 97 = .ok (.iload_n 3, 1) := by decide +kernel
theorem dX6_error_98 : decode cX6_error 98 = .ok (.istore 4, 2) := by decide +kernel
theorem dX6_error_100 : decode cX6_error 100 = .ok (.aload_n 0, 1) := by decide +kernel
theorem dX6_error_101 : decode cX6_error 101 = .ok (.invokevirtual 155, 3) := by decide +kernel
theorem dX6_error_104 : decode cX6_error 104 = .ok (.istore 5, 2) := by decide +kernel
theorem dX6_error_106 : decode cX6_error 106 = .ok (.iload 5, 2) := by decide +kernel
theorem dX6_error_108 : decode cX6_error 108 = .ok (.ifCond .le 21, 3) := by decide +kernel
theorem dX6_error_111 : decode cX6_error 111 = .ok (.iload 4, 2) := by decide +kernel
theorem dX6_error_113 : decode cX6_error 113 = .ok (.iload 5, 2) := by decide +kernel
theorem dX6_error_115 : decode cX6_error 115 = .ok (.irem, 1) := by decide +kernel
theorem dX6_error_116 : decode cX6_error 116 = .ok (.istore 6, 2) := by decide +kernel
theorem dX6_error_118 : decode cX6_error 118 = .ok (.iload 5, 2) := by decide +kernel
theorem dX6_error_120 : decode cX6_error 120 = .ok (.istore 4, 2) := by decide +kernel
theorem dX6_error_122 : decode cX6_error 122 = .ok (.iload 6, 2) := by decide +kernel
theorem dX6_error_124 : decode cX6_error 124 = .ok (.istore 5, 2) := by decide +kernel
theorem dX6_error_126 : decode cX6_error 126 = .ok (.goto (-20), 3) := by decide +kernel
theorem dX6_error_129 : decode cX6_error 129 = .ok (.iload_n 2, 1) := by decide +kernel
theorem dX6_error_130 : decode cX6_error 130 = .ok (.ifCond .ne 7, 3) := by decide +kernel
theorem dX6_error_133 : decode cX6_error 133 = .ok (.iload_n 3, 1) := by decide +kernel
theorem dX6_error_134 : decode cX6_error 134 = .ok (.goto 7, 3) := by decide +kernel
theorem dX6_error_137 : decode cX6_error 137 = .ok (.aload_n 0, 1) := by decide +kernel
theorem dX6_error_138 : decode cX6_error 138 = .ok (.invokevirtual 155, 3) := by decide +kernel
theorem dX6_error_141 : decode cX6_error 141 = .ok (.iload 4, 2) := by decide +kernel
theorem dX6_error_143 : decode cX6_error 143 = .ok (.idiv, 1) := by decide +kernel
theorem dX6_error_144 : decode cX6_error 144 = .ok (.ireturn, 1) := by decide +kernel
set_option maxRecDepth 20000 in
theorem ggX6_isSheet_X6_in : GoodIn wsX6_isSheet wsX6_in := goodIn_r _ [4] (by decide +kernel) (by decide +kernel)
set_option maxRecDepth 20000 in
theorem gX6_isSheet_X6_in : GoodIn wsX6_isSheet (va_wsS RX6 38 yX6_in wsX6_in) := goodIn_app (goodIn_of _ (by decide +kernel)) ggX6_isSheet_X6_in
theorem dX6_isSheet_0 : decode cX6_isSheet 0 = .ok (.iload_n 0, 1) := by decide +kernel
theorem dX6_isSheet_1 : decode cX6_isSheet 1 = .ok (.iconst 0, 1) := by decide +kernel
theorem dX6_isSheet_2 : decode cX6_isSheet 2 = .ok (.iconst 3, 1) := by decide +kernel
theorem dX6_isSheet_3 : decode cX6_isSheet 3 = .ok (.invokestatic 38, 3) := by decide +kernel
theorem dX6_isSheet_6 : decode cX6_isSheet 6 = .ok (.ireturn, 1) := by decide +kernel
theorem dX6_isPart_0 : decode cX6_isPart 0 = .ok (.iload_n 1, 1) := by decide +kernel
theorem dX6_isPart_1 : decode cX6_isPart 1 = .ok (.ifCond .lt 23, 3) := by decide +kernel
theorem dX6_isPart_4 : decode cX6_isPart 4 = .ok (.iload_n 0, 1) := by decide +kernel
theorem dX6_isPart_5 : decode cX6_isPart 5 = .ok (.ifCond .lt 19, 3) := by decide +kernel
theorem dX6_isPart_8 : decode cX6_isPart 8 = .ok (.iload_n 1, 1) := by decide +kernel
theorem dX6_isPart_9 : decode cX6_isPart 9 = .ok (.iload_n 2, 1) := by decide +kernel
theorem dX6_isPart_10 : decode cX6_isPart 10 = .ok (.if_icmp .gt 14, 3) := by decide +kernel
theorem dX6_isPart_13 : decode cX6_isPart 13 = .ok (.iload_n 0, 1) := by decide +kernel
theorem dX6_isPart_14 : decode cX6_isPart 14 = .ok (.iload_n 2, 1) := by decide +kernel
theorem dX6_isPart_15 : decode cX6_isPart 15 = .ok (.iload_n 1, 1) := by decide +kernel
theorem dX6_isPart_16 : decode cX6_isPart 16 = .ok (.isub, 1) := by decide +kernel
theorem dX6_isPart_17 : decode cX6_isPart 17 = .ok (.if_icmp .gt 7, 3) := by decide +kernel
theorem dX6_isPart_20 : decode cX6_isPart 20 = .ok (.iconst 1, 1) := by decide +kernel
theorem dX6_isPart_21 : decode cX6_isPart 21 = .ok (.goto 4, 3) := by decide +kernel
theorem dX6_isPart_24 : decode cX6_isPart 24 = .ok (.iconst 0, 1) := by decide +kernel
theorem dX6_isPart_25 : decode cX6_isPart 25 = .ok (.ireturn, 1) := by decide +kernel
theorem dX6_cutTo_0 : decode cX6_cutTo 0 = .ok (.iload_n 0, 1) := by decide +kernel
theorem dX6_cutTo_1 : decode cX6_cutTo 1 = .ok (.ifCond .ne 10, 3) := by decide +kernel
theorem dX6_cutTo_4 : decode cX6_cutTo 4 = .ok (.lload_n 1, 1) := by decide +kernel
theorem dX6_cutTo_5 : decode cX6_cutTo 5 = .ok (.l2i, 1) := by decide +kernel
theorem dX6_cutTo_6 : decode cX6_cutTo 6 = .ok (.i2b, 1) := by decide +kernel
theorem dX6_cutTo_7 : decode cX6_cutTo 7 = .ok (.i2l, 1) := by decide +kernel
theorem dX6_cutTo_8 : decode cX6_cutTo 8 = .ok (.goto 27, 3) := by decide +kernel
theorem dX6_cutTo_11 : decode cX6_cutTo 11 = .ok (.iload_n 0, 1) := by decide +kernel
theorem dX6_cutTo_12 : decode cX6_cutTo 12 = .ok (.iconst 1, 1) := by decide +kernel
theorem dX6_cutTo_13 : decode cX6_cutTo 13 = .ok (.if_icmp .ne 10, 3) := by decide +kernel
theorem dX6_cutTo_16 : decode cX6_cutTo 16 = .ok (.lload_n 1, 1) := by decide +kernel
theorem dX6_cutTo_17 : decode cX6_cutTo 17 = .ok (.l2i, 1) := by decide +kernel
theorem dX6_cutTo_18 : decode cX6_cutTo 18 = .ok (.i2s, 1) := by decide +kernel
theorem dX6_cutTo_19 : decode cX6_cutTo 19 = .ok (.i2l, 1) := by decide +kernel
theorem dX6_cutTo_20 : decode cX6_cutTo 20 = .ok (.goto 15, 3) := by decide +kernel
theorem dX6_cutTo_23 : decode cX6_cutTo 23 = .ok (.iload_n 0, 1) := by decide +kernel
theorem dX6_cutTo_24 : decode cX6_cutTo 24 = .ok (.iconst 2, 1) := by decide +kernel
theorem dX6_cutTo_25 : decode cX6_cutTo 25 = .ok (.if_icmp .ne 9, 3) := by decide +kernel
theorem dX6_cutTo_28 : decode cX6_cutTo 28 = .ok (.lload_n 1, 1) := by decide +kernel
theorem dX6_cutTo_29 : decode cX6_cutTo 29 = .ok (.l2i, 1) := by decide +kernel
theorem dX6_cutTo_30 : decode cX6_cutTo 30 = .ok (.i2l, 1) := by decide +kernel
theorem dX6_cutTo_31 : decode cX6_cutTo 31 = .ok (.goto 4, 3) := by decide +kernel
theorem dX6_cutTo_34 : decode cX6_cutTo 34 = .ok (.lload_n 1, 1) := by decide +kernel
theorem dX6_cutTo_35 : decode cX6_cutTo 35 = .ok (.lreturn, 1) := by decide +kernel
set_option maxRecDepth 20000 in
theorem ggX6_drop_X6_isSheet : GoodIn wsX6_drop wsX6_isSheet := goodIn_r _ [6, 7, 8, 5, 9] (by decide +kernel) (by decide +kernel)
set_option maxRecDepth 20000 in
theorem gX6_drop_X6_isSheet : GoodIn wsX6_drop (va_wsS RX6 178 yX6_isSheet wsX6_isSheet) := goodIn_app (goodIn_of _ (by decide +kernel)) ggX6_drop_X6_isSheet
theorem dX6_drop_0 : decode cX6_drop 0 = .ok (.iload_n 1, 1) := by decide +kernel
theorem dX6_drop_1 : decode cX6_drop 1 = .ok (.invokestatic 178, 3) := by decide +kernel
theorem dX6_drop_4 : decode cX6_drop 4 = .ok (.ifCond .ne 5, 3) := by decide +kernel
theorem dX6_drop_7 : decode cX6_drop 7 = .ok (.iconst (-1), 1) := by decide +kernel
theorem dX6_drop_8 : decode cX6_drop 8 = .ok (.ireturn, 1) := by decide +kernel
theorem dX6_drop_9 : decode cX6_drop 9 = .ok (.aload_n 0, 1) := by decide +kernel
theorem dX6_drop_10 : decode cX6_drop 10 = .ok (.getfield 7, 3) := by decide +kernel
theorem dX6_drop_13 : decode cX6_drop 13 = .ok (.iload_n 1, 1) := by decide +kernel
theorem dX6_drop_14 : decode cX6_drop 14 = .ok (.iaload, 1) := by decide +kernel
theorem dX6_drop_15 : decode cX6_drop 15 = .ok (.ifCond .ge 6, 3) := by decide +kernel
theorem dX6_drop_18 : decode cX6_drop 18 = .ok (.bipush (-11), 2) := by decide +kernel
theorem dX6_drop_20 : decode cX6_drop 20 = .ok (.ireturn, 1) := by decide +kernel
theorem dX6_drop_21 : decode cX6_drop 21 = .ok (.aload_n 0, 1) := by decide +kernel
theorem dX6_drop_22 : decode cX6_drop 22 = .ok (.getfield 7, 3) := by decide +kernel
theorem dX6_drop_25 : decode cX6_drop 25 = .ok (.iload_n 1, 1) := by decide +kernel
theorem dX6_drop_26 : decode cX6_drop 26 = .ok (.iconst (-1), 1) := by decide +kernel
theorem dX6_drop_27 : decode cX6_drop 27 = .ok (.iastore, 1) := by decide +kernel
theorem dX6_drop_28 : decode cX6_drop 28 = .ok (.aload_n 0, 1) := by decide +kernel
theorem dX6_drop_29 : decode cX6_drop 29 = .ok (.getfield 13, 3) := by decide +kernel
theorem dX6_drop_32 : decode cX6_drop 32 = .ok (.iload_n 1, 1) := by decide +kernel
theorem dX6_drop_33 : decode cX6_drop 33 = .ok (.iaload, 1) := by decide +kernel
theorem dX6_drop_34 : decode cX6_drop 34 = .ok (.ireturn, 1) := by decide +kernel
set_option maxRecDepth 20000 in
theorem ggX6_copy_X6_isSheet : GoodIn wsX6_copy wsX6_isSheet := goodIn_r _ [7, 8, 9, 6, 10] (by decide +kernel) (by decide +kernel)
set_option maxRecDepth 20000 in
theorem gX6_copy_X6_isSheet : GoodIn wsX6_copy (va_wsS RX6 178 yX6_isSheet wsX6_isSheet) := goodIn_app (goodIn_of _ (by decide +kernel)) ggX6_copy_X6_isSheet
set_option maxRecDepth 20000 in
theorem ggX6_copy_X6_isPart : GoodIn wsX6_copy wsX6_isPart := goodIn_r _ [13] (by decide +kernel) (by decide +kernel)
set_option maxRecDepth 20000 in
theorem gX6_copy_X6_isPart : GoodIn wsX6_copy (va_wsS RX6 175 yX6_isPart wsX6_isPart) := goodIn_app (goodIn_of _ (by decide +kernel)) ggX6_copy_X6_isPart
theorem dX6_copy_0 : decode cX6_copy 0 = .ok (.iload_n 1, 1) := by decide +kernel
theorem dX6_copy_1 : decode cX6_copy 1 = .ok (.invokestatic 178, 3) := by decide +kernel
theorem dX6_copy_4 : decode cX6_copy 4 = .ok (.ifCond .eq 10, 3) := by decide +kernel
theorem dX6_copy_7 : decode cX6_copy 7 = .ok (.iload_n 3, 1) := by decide +kernel
theorem dX6_copy_8 : decode cX6_copy 8 = .ok (.invokestatic 178, 3) := by decide +kernel
theorem dX6_copy_11 : decode cX6_copy 11 = .ok (.ifCond .ne 5, 3) := by decide +kernel
theorem dX6_copy_14 : decode cX6_copy 14 = .ok (.iconst (-1), 1) := by decide +kernel
theorem dX6_copy_15 : decode cX6_copy 15 = .ok (.ireturn, 1) := by decide +kernel
theorem dX6_copy_16 : decode cX6_copy 16 = .ok (.aload_n 0, 1) := by decide +kernel
theorem dX6_copy_17 : decode cX6_copy 17 = .ok (.getfield 7, 3) := by decide +kernel
theorem dX6_copy_20 : decode cX6_copy 20 = .ok (.iload_n 1, 1) := by decide +kernel
theorem dX6_copy_21 : decode cX6_copy 21 = .ok (.iaload, 1) := by decide +kernel
theorem dX6_copy_22 : decode cX6_copy 22 = .ok (.ifCond .lt 12, 3) := by decide +kernel
theorem dX6_copy_25 : decode cX6_copy 25 = .ok (.aload_n 0, 1) := by decide +kernel
theorem dX6_copy_26 : decode cX6_copy 26 = .ok (.getfield 7, 3) := by decide +kernel
theorem dX6_copy_29 : decode cX6_copy 29 = .ok (.iload_n 3, 1) := by decide +kernel
theorem dX6_copy_30 : decode cX6_copy 30 = .ok (.iaload, 1) := by decide +kernel
theorem dX6_copy_31 : decode cX6_copy 31 = .ok (.ifCond .ge 6, 3) := by decide +kernel
theorem dX6_copy_34 : decode cX6_copy 34 = .ok (.bipush (-11), 2) := by decide +kernel
theorem dX6_copy_36 : decode cX6_copy 36 = .ok (.ireturn, 1) := by decide +kernel
theorem dX6_copy_37 : decode cX6_copy 37 = .ok (.aload_n 0, 1) := by decide +kernel
theorem dX6_copy_38 : decode cX6_copy 38 = .ok (.getfield 7, 3) := by decide +kernel
theorem dX6_copy_41 : decode cX6_copy 41 = .ok (.iload_n 1, 1) := by decide +kernel
theorem dX6_copy_42 : decode cX6_copy 42 = .ok (.iaload, 1) := by decide +kernel
theorem dX6_copy_43 : decode cX6_copy 43 = .ok (.aload_n 0, 1) := by decide +kernel
theorem dX6_copy_44 : decode cX6_copy 44 = .ok (.getfield 7, 3) := by decide +kernel
theorem dX6_copy_47 : decode cX6_copy 47 = .ok (.iload_n 3, 1) := by decide +kernel
theorem dX6_copy_48 : decode cX6_copy 48 = .ok (.iaload, 1) := by decide +kernel
theorem dX6_copy_49 : decode cX6_copy 49 = .ok (.if_icmp .eq 6, 3) := by decide +kernel
theorem dX6_copy_52 : decode cX6_copy 52 = .ok (.bipush (-12), 2) := by decide +kernel
theorem dX6_copy_54 : decode cX6_copy 54 = .ok (.ireturn, 1) := by decide +kernel
theorem dX6_copy_55 : decode cX6_copy 55 = .ok (.iload_n 2, 1) := by decide +kernel
theorem dX6_copy_56 : decode cX6_copy 56 = .ok (.iload 5, 2) := by decide +kernel
theorem dX6_copy_58 : decode cX6_copy 58 = .ok (.aload_n 0, 1) := by decide +kernel
theorem dX6_copy_59 : decode cX6_copy 59 = .ok (.getfield 13, 3) := by decide +kernel
theorem dX6_copy_62 : decode cX6_copy 62 = .ok (.iload_n 1, 1) := by decide +kernel
theorem dX6_copy_63 : decode cX6_copy 63 = .ok (.iaload, 1) := by decide +kernel
theorem dX6_copy_64 : decode cX6_copy 64 = .ok (.invokestatic 175, 3) := by decide +kernel
theorem dX6_copy_67 : decode cX6_copy 67 = .ok (.ifCond .eq 19, 3) := by decide +kernel
theorem dX6_copy_70 : decode cX6_copy 70 = .ok (.iload 4, 2) := by decide +kernel
theorem dX6_copy_72 : decode cX6_copy 72 = .ok (.iload 5, 2) := by decide +kernel
theorem dX6_copy_74 : decode cX6_copy 74 = .ok (.aload_n 0, 1) := by decide +kernel
theorem dX6_copy_75 : decode cX6_copy 75 = .ok (.getfield 13, 3) := by decide +kernel
theorem dX6_copy_78 : decode cX6_copy 78 = .ok (.iload_n 3, 1) := by decide +kernel
theorem dX6_copy_79 : decode cX6_copy 79 = .ok (.iaload, 1) := by decide +kernel
theorem dX6_copy_80 : decode cX6_copy 80 = .ok (.invokestatic 175, 3) := by decide +kernel
theorem dX6_copy_83 : decode cX6_copy 83 = .ok (.ifCond .ne 6, 3) := by decide +kernel
theorem dX6_copy_86 : decode cX6_copy 86 = .ok (.bipush (-13), 2) := by decide +kernel
theorem dX6_copy_88 : decode cX6_copy 88 = .ok (.ireturn, 1) := by decide +kernel
theorem dX6_copy_89 : decode cX6_copy 89 = .ok (.iload_n 1, 1) := by decide +kernel
theorem dX6_copy_90 : decode cX6_copy 90 = .ok (.iload_n 3, 1) := by decide +kernel
theorem dX6_copy_91 : decode cX6_copy 91 = .ok (.if_icmp .ne 13, 3) := by decide +kernel
theorem dX6_copy_94 : decode cX6_copy 94 = .ok (.iload 4, 2) := by decide +kernel
theorem dX6_copy_96 : decode cX6_copy 96 = .ok (.iload_n 2, 1) := by decide +kernel
theorem dX6_copy_97 : decode cX6_copy 97 = .ok (.if_icmp .le 7, 3) := by decide +kernel
theorem dX6_copy_100 : decode cX6_copy 100 = .ok (.iconst 1, 1) := by decide +kernel
theorem dX6_copy_101 : decode cX6_copy 101 = .ok (.goto 4, 3) := by decide +kernel
theorem dX6_copy_104 : decode cX6_copy 104 = .ok (.iconst 0, 1) := by decide +kernel
theorem dX6_copy_105 : decode cX6_copy 105 = .ok (.istore 6, 2) := by decide +kernel
theorem dX6_copy_107 : decode cX6_copy 107 = .ok (.iconst 0, 1) := by decide +kernel
theorem dX6_copy_108 : decode cX6_copy 108 = .ok (.istore 7, 2) := by decide +kernel
theorem dX6_copy_110 : decode cX6_copy 110 = .ok (.iload 7, 2) := by decide +kernel
theorem dX6_copy_112 : decode cX6_copy 112 = .ok (.iload 5, 2) := by decide +kernel
theorem dX6_copy_114 : decode cX6_copy 114 = .ok (.if_icmp .ge 57, 3) := by decide +kernel
theorem dX6_copy_117 : decode cX6_copy 117 = .ok (.iload 6, 2) := by decide +kernel
theorem dX6_copy_119 : decode cX6_copy 119 = .ok (.ifCond .eq 13, 3) := by decide +kernel
theorem dX6_copy_122 : decode cX6_copy 122 = .ok (.iload 5, 2) := by decide +kernel
theorem dX6_copy_124 : decode cX6_copy 124 = .ok (.iconst 1, 1) := by decide +kernel
theorem dX6_copy_125 : decode cX6_copy 125 = .ok (.isub, 1) := by decide +kernel
theorem dX6_copy_126 : decode cX6_copy 126 = .ok (.iload 7, 2) := by decide +kernel
theorem dX6_copy_128 : decode cX6_copy 128 = .ok (.isub, 1) := by decide +kernel
theorem dX6_copy_129 : decode cX6_copy 129 = .ok (.goto 5, 3) := by decide +kernel
theorem dX6_copy_132 : decode cX6_copy 132 = .ok (.iload 7, 2) := by decide +kernel
theorem dX6_copy_134 : decode cX6_copy 134 = .ok (.istore 8, 2) := by decide +kernel
theorem dX6_copy_136 : decode cX6_copy 136 = .ok (.aload_n 0, 1) := by decide +kernel
theorem dX6_copy_137 : decode cX6_copy 137 = .ok (.getfield 16, 3) := by decide +kernel
theorem dX6_copy_140 : decode cX6_copy 140 = .ok (.bipush 24, 2) := by decide +kernel
theorem dX6_copy_142 : decode cX6_copy 142 = .ok (.iload_n 3, 1) := by decide +kernel
theorem dX6_copy_143 : decode cX6_copy 143 = .ok (.imul, 1) := by decide +kernel
theorem dX6_copy_144 : decode cX6_copy 144 = .ok (.iload 4, 2) := by decide +kernel
theorem dX6_copy_146 : decode cX6_copy 146 = .ok (.iadd, 1) := by decide +kernel
theorem dX6_copy_147 : decode cX6_copy 147 = .ok (.iload 8, 2) := by decide +kernel
theorem dX6_copy_149 : decode cX6_copy 149 = .ok (.iadd, 1) := by decide +kernel
theorem dX6_copy_150 : decode cX6_copy 150 = .ok (.aload_n 0, 1) := by decide +kernel
theorem dX6_copy_151 : decode cX6_copy 151 = .ok (.getfield 16, 3) := by decide +kernel
theorem dX6_copy_154 : decode cX6_copy 154 = .ok (.bipush 24, 2) := by decide +kernel
theorem dX6_copy_156 : decode cX6_copy 156 = .ok (.iload_n 1, 1) := by decide +kernel
theorem dX6_copy_157 : decode cX6_copy 157 = .ok (.imul, 1) := by decide +kernel
theorem dX6_copy_158 : decode cX6_copy 158 = .ok (.iload_n 2, 1) := by decide +kernel
theorem dX6_copy_159 : decode cX6_copy 159 = .ok (.iadd, 1) := by decide +kernel
theorem dX6_copy_160 : decode cX6_copy 160 = .ok (.iload 8, 2) := by decide +kernel
theorem dX6_copy_162 : decode cX6_copy 162 = .ok (.iadd, 1) := by decide +kernel
theorem dX6_copy_163 : decode cX6_copy 163 = .ok (.laload, 1) := by decide +kernel
theorem dX6_copy_164 : decode cX6_copy 164 = .ok (.lastore, 1) := by decide +kernel
theorem dX6_copy_165 : decode cX6_copy 165 = .ok (.iinc 7 1, 3) := by decide +kernel
theorem dX6_copy_168 : decode cX6_copy 168 = .ok (.goto (-58), 3) := by decide +kernel
theorem dX6_copy_171 : decode cX6_copy 171 = .ok (.iload 5, 2) := by decide +kernel
theorem dX6_copy_173 : decode cX6_copy 173 = .ok (.ireturn, 1) := by decide +kernel
def fX6_in (p1 : Int32) (p2 : Int32) (p3 : Int32)   : Option Int32 := if p1 < p2 then (some 0) else (if p3 < p1 then (some 0) else (some 1))
set_option maxHeartbeats 4000000 in
set_option maxRecDepth 100000 in
theorem ct_X6_in {l : Launch} {D : va_G} {g : Nat → ClassId} {qa : Nat → Nat} {E0 : Nat → va_E} {p1 : Int32} {p2 : Int32} {p3 : Int32} {R : Int32} (hf : fX6_in p1 p2 p3 = some R) : MI l yX6_in wsX6_in 0 D g qa E0 [.int p1, .int p2, .int p3] R (fun E => E = E0) := by
  refine MI.mk (by decide) rfl (Nat.le_of_ble_eq_true rfl) ?_
  intro p e s m args below meth c ls Q X hret hP hS hl
  have hl : lv_has ls 3 [(0, .int p1), (1, .int p2), (2, .int p3)] := hl
  rw [fX6_in] at hf
  refine lv_iload_n X.1 X.2.1 dX6_in_0 rfl (lv_at hl 0 rfl) ?_
  refine lv_iload_n X.1 X.2.1 dX6_in_1 rfl (lv_at hl 1 rfl) ?_
  refine lv_icmp_lt (tgt := 14) X.1 X.2.1 dX6_in_2 (by decide) (fun c1 => ?_) (fun c1 => ?_)
  · have hf := ifp hf c1
    refine lv_iconst (v := 0) X.1 X.2.1 dX6_in_14 (by decide) ?_
    obtain rfl := Option.some.inj hf
    exact hret _ _ _ _ _ _ dX6_in_15 rfl rfl (rfl) hP hS
  · have hf := ifn hf c1
    refine lv_iload_n X.1 X.2.1 dX6_in_5 rfl (lv_at hl 0 rfl) ?_
    refine lv_iload_n X.1 X.2.1 dX6_in_6 rfl (lv_at hl 2 rfl) ?_
    refine lv_icmp_gt (tgt := 14) X.1 X.2.1 dX6_in_7 (by decide) (fun c2 => ?_) (fun c2 => ?_)
    · have hf := ifp hf c2
      refine lv_iconst (v := 0) X.1 X.2.1 dX6_in_14 (by decide) ?_
      obtain rfl := Option.some.inj hf
      exact hret _ _ _ _ _ _ dX6_in_15 rfl rfl (rfl) hP hS
    · have hf := ifn hf c2
      refine lv_iconst (v := 1) X.1 X.2.1 dX6_in_10 (by decide) ?_
      refine lv_goto (tgt := 15) X.1 X.2.1 dX6_in_11 (by decide) ?_
      obtain rfl := Option.some.inj hf
      exact hret _ _ _ _ _ _ dX6_in_15 rfl rfl (rfl) hP hS
def fX6_isMan (p1 : Int32)  (now_M : Nat → Int32) : Option Int32 := gin 19 191 ((fX6_in p1 0 ((now_M (Int32.toNatClampNeg 19)) - 1)).bind (fun r2 => gbz r2 (some r2)))
theorem in_X6_isMan_X6 : ∀ w ∈ wsX60, w ∈ wsX6_isMan := by decide +kernel
set_option maxHeartbeats 4000000 in
set_option maxRecDepth 100000 in
theorem ct_X6_isMan {l : Launch} {D : va_G} {g : Nat → ClassId} {qa : Nat → Nat} {E0 : Nat → va_E} {p1 : Int32} {ltr_M : Int32} {pos_M : Int32} {num_M : Int32} {isk_M : Int32} {bm_M : Int32} {bch_M : Int32} {lan_M : Nat → Int32} {siz_M : Nat → Int32} {itm_M : Nat → Int64} {tap_M : Nat → Int32} {now_M : Nat → Int32} {tri_M : Nat → Int32} {rd_M : Nat → Int32} {kp_M : Nat → Int32} {bes_M : Nat → Int32} (hG_M : Mo g qa E0 64 ltr_M pos_M num_M isk_M bm_M bch_M lan_M siz_M itm_M tap_M now_M tri_M rd_M kp_M bes_M) {R : Int32} (hf : fX6_isMan p1 now_M = some R) : MI l yX6_isMan wsX6_isMan 1 D g qa E0 [.ref (qa 64), .int p1] R (fun E => E = E0) := by
  refine MI.mk (by decide) rfl (Nat.le_of_ble_eq_true rfl) ?_
  intro p e s m args below meth c ls Q X hret hP hS hl
  have hl : lv_has ls 2 [(0, .ref (qa 64)), (1, .int p1)] := hl
  rw [fX6_isMan] at hf
  refine lv_iload_n X.1 X.2.1 dX6_isMan_0 rfl (lv_at hl 1 rfl) ?_
  refine lv_iconst (v := 0) X.1 X.2.1 dX6_isMan_1 (by decide) ?_
  refine lv_aload_n X.1 X.2.1 dX6_isMan_2 rfl (lv_at hl 0 rfl) ?_
  refine x_get X hP hG_M.1 (by omega) rfl in_X6_isMan_X6 7 (by decide) (by decide +kernel) rfl rfl dX6_isMan_3 ?_
  refine lv_bipush (v := 19) X.1 X.2.1 dX6_isMan_6 (by decide) ?_
  obtain ⟨hi1, hf⟩ := gin_of hf
  refine x_iald X hP hG_M.2.2.2.2.2.1 (by omega) hi1 dX6_isMan_8 ?_
  refine lv_iconst (v := 1) X.1 X.2.1 dX6_isMan_9 (by decide) ?_
  refine lv_isub X.1 X.2.1 dX6_isMan_10 ?_
  obtain ⟨r2, hr2, hf⟩ := bd_of hf
  refine x_rdSi X hP hS (index := 38) (n := 3) (As := [.int p1, .int 0, .int ((now_M (Int32.toNatClampNeg 19)) - 1)]) (ct_X6_in  hr2) ggX6_isMan_X6_in (by decide +kernel) (by decide +kernel) (by decide +kernel) rfl (by decide +kernel) ⟨by decide, by decide⟩ rfl hl.1 rfl (Nat.le_of_ble_eq_true rfl) dX6_isMan_11 (fun H locs hP hS => ?_)
  obtain ⟨hb3, hf⟩ := gbz_of hf
  obtain rfl := Option.some.inj hf
  exact hret _ _ _ _ _ _ dX6_isMan_14 (gbz_n hb3) rfl (rfl) hP hS
def bX6_bring_d_3 (arr_s : Nat → Int32) (N2 : Nat) (p2 : Int32) (p4 : Int32) (p5 : Int32) (K1 : ((Int32 × (Nat → Int32))) → Option ((Nat → Int32))) : ((Int32 × (Nat → Int32))) → Option ((Nat → Int32))
  | (v5_1, arr_d_1) => if p5 ≤ v5_1 then (some arr_d_1) else (gin (p2 + v5_1) 191 (gin (p4 + v5_1) N2 (nm (v5_1 + 1) (fun x5 => K1 (x5, upd arr_d_1 (Int32.toNatClampNeg (p4 + v5_1)) (arr_s (Int32.toNatClampNeg (p2 + v5_1))))))))
def fX6_bring_d (p2 : Int32) (p4 : Int32) (p5 : Int32) (N2 : Nat) (arr_s : Nat → Int32) (arr_d : Nat → Int32) : Option ((Nat → Int32)) := lp (bX6_bring_d_3 arr_s N2 p2 p4 p5) FU (0, arr_d)
set_option maxHeartbeats 4000000 in
set_option maxRecDepth 100000 in
theorem ct_X6_bring_d {l : Launch} {D : va_G} {g : Nat → ClassId} {qa : Nat → Nat} {E0 : Nat → va_E} {k : Nat} {k2 : Nat} {N2 : Nat} {p2 : Int32} {p4 : Int32} {p5 : Int32} {arr_s : Nat → Int32} {arr_d : Nat → Int32} (hb_s : k < 74) (hG_s : E0 k = .inl (g 0, 191, .inl arr_s)) (hb_d : k2 < 74) (hG_d : E0 k2 = .inl (g 0, N2, .inl arr_d)) (hx0 : k ≠ k2) {R : ((Nat → Int32))} (hf : fX6_bring_d p2 p4 p5 N2 arr_s arr_d = some R) : MV l yX6_bring wsX6_bring 0 D g qa E0 [.ref (qa k), .int p2, .ref (qa k2), .int p4, .int p5] (fun E => E k2 = .inl (g 0, N2, .inl R) ∧ ∀ j, j ≠ k2 → E j = E0 j) := by
  refine MV.mk (by decide) rfl (Nat.le_of_ble_eq_true rfl) ?_
  intro p e s m args below meth c ls Q X hret hP hS hl
  have hl : lv_has ls 6 [(0, .ref (qa k)), (1, .int p2), (2, .ref (qa k2)), (3, .int p4), (4, .int p5)] := hl
  have hfr : ∀ j, j ≠ k2 → E0 j = E0 j := fun _ _ => rfl
  rw [fX6_bring_d] at hf
  refine lv_iconst (v := 0) X.1 X.2.1 dX6_bring_0 (by decide) ?_
  refine lv_istore (lv' := [(5, .int 0), (0, .ref (qa k)), (1, .int p2), (2, .ref (qa k2)), (3, .int p4), (4, .int p5)]) X.1 X.2.1 dX6_bring_1 hl (by decide) rfl (fun ls hl => ?_)
  have lp1 : ∀ (n1 : Nat) (v5_1 : Int32) (arr_d_1 : Nat → Int32) (E : Nat → va_E) (H : Heap) (locs : List Loc) (ls : Array Slot), lp (bX6_bring_d_3 arr_s N2 p2 p4 p5) n1 (v5_1, arr_d_1) = some R → va_P D vwCl (WD qa E) H → va_S (gA qa s.heap.size) s.heap H locs → E k = .inl (g 0, 191, .inl arr_s) → E k2 = .inl (g 0, N2, .inl arr_d_1) → (∀ j, j ≠ k2 → E j = E0 j) → lv_has ls 6 [(0, .ref (qa k)), (1, .int p2), (2, .ref (qa k2)), (3, .int p4), (4, .int p5), (5, .int v5_1)] → W p l e (rmf 0) s m args below meth c H locs 0 0 Q (F0 m 3 ls []) := by
    intro n1
    induction n1 with
    | zero =>
      intro v5_1 arr_d_1 E H locs ls hf
      exact absurd hf (by intro h; cases h)
    | succ n1 ih1 =>
      intro v5_1 arr_d_1 E H locs ls hf hP hS hG_s hG_d hfr hl
      have hf : bX6_bring_d_3 arr_s N2 p2 p4 p5 (lp (bX6_bring_d_3 arr_s N2 p2 p4 p5) n1) (v5_1, arr_d_1) = some R := hf
      rw [bX6_bring_d_3] at hf
      refine lv_iload X.1 X.2.1 dX6_bring_3 (lv_at hl 5 rfl) ?_
      refine lv_iload X.1 X.2.1 dX6_bring_5 (lv_at hl 4 rfl) ?_
      refine lv_icmp_ge (tgt := 28) X.1 X.2.1 dX6_bring_7 (by decide) (fun c2 => ?_) (fun c2 => ?_)
      · have hf := ifp hf c2
        obtain rfl := Option.some.inj hf
        exact hret _ _ _ _ _ dX6_bring_28 (⟨hG_d, hfr⟩) hP hS
      · have hf := ifn hf c2
        refine lv_aload_n X.1 X.2.1 dX6_bring_10 rfl (lv_at hl 2 rfl) ?_
        refine lv_iload_n X.1 X.2.1 dX6_bring_11 rfl (lv_at hl 3 rfl) ?_
        refine lv_iload X.1 X.2.1 dX6_bring_12 (lv_at hl 5 rfl) ?_
        refine lv_iadd X.1 X.2.1 dX6_bring_14 ?_
        refine lv_aload_n X.1 X.2.1 dX6_bring_15 rfl (lv_at hl 0 rfl) ?_
        refine lv_iload_n X.1 X.2.1 dX6_bring_16 rfl (lv_at hl 1 rfl) ?_
        refine lv_iload X.1 X.2.1 dX6_bring_17 (lv_at hl 5 rfl) ?_
        refine lv_iadd X.1 X.2.1 dX6_bring_19 ?_
        obtain ⟨hi3, hf⟩ := gin_of hf
        refine x_iald X hP hG_s (by omega) hi3 dX6_bring_20 ?_
        obtain ⟨hi4, hf⟩ := gin_of hf
        refine x_iast X hP hS hG_d (by omega) hi4 dX6_bring_21 (fun E H locs h1 hk hP hS => ?_)
        have hG_d := h1
        have hG_s := (hk _ (by omega)).trans hG_s
        have hfr : ∀ j, j ≠ k2 → E j = E0 j := fun j o0 => (hk j (by omega)).trans (hfr j o0)
        obtain ⟨x5, ex5, hf⟩ := nm_of hf
        refine lv_iinc (v := x5) (lv' := [(5, .int x5), (0, .ref (qa k)), (1, .int p2), (2, .ref (qa k2)), (3, .int p4), (4, .int p5)]) X.1 X.2.1 dX6_bring_22 hl (k := 5) rfl (by rw [ex5]; rfl) (by decide) rfl (fun ls hl => ?_)
        refine lv_goto (tgt := 3) X.1 X.2.1 dX6_bring_25 (by decide) ?_
        exact ih1 x5 (upd arr_d_1 (Int32.toNatClampNeg (p4 + v5_1)) (arr_s (Int32.toNatClampNeg (p2 + v5_1)))) _ _ _ _ hf hP hS hG_s hG_d hfr (lv_sub hl [1, 2, 3, 4, 5, 0] rfl)
  exact lp1 FU 0 arr_d _ _ _ _ hf hP hS hG_s hG_d hfr (lv_sub hl [1, 2, 3, 4, 5, 0] rfl)
def fX6_begin   (now_M : Nat → Int32) (tri_M : Nat → Int32) : Option ((Nat → Int32)) := (fX6_bring_d 0 0 38 191 now_M tri_M).bind (fun r1 => some r1)
theorem in_X6_begin_X6 : ∀ w ∈ wsX60, w ∈ wsX6_begin := by decide +kernel
set_option maxHeartbeats 4000000 in
set_option maxRecDepth 100000 in
theorem ct_X6_begin {l : Launch} {D : va_G} {g : Nat → ClassId} {qa : Nat → Nat} {E0 : Nat → va_E} {ltr_M : Int32} {pos_M : Int32} {num_M : Int32} {isk_M : Int32} {bm_M : Int32} {bch_M : Int32} {lan_M : Nat → Int32} {siz_M : Nat → Int32} {itm_M : Nat → Int64} {tap_M : Nat → Int32} {now_M : Nat → Int32} {tri_M : Nat → Int32} {rd_M : Nat → Int32} {kp_M : Nat → Int32} {bes_M : Nat → Int32} (hG_M : Mo g qa E0 64 ltr_M pos_M num_M isk_M bm_M bch_M lan_M siz_M itm_M tap_M now_M tri_M rd_M kp_M bes_M) {R : ((Nat → Int32))} (hf : fX6_begin now_M tri_M = some R) : MV l yX6_begin wsX6_begin 1 D g qa E0 [.ref (qa 64)] (fun E => Mo g qa E 64 ltr_M pos_M num_M isk_M bm_M bch_M lan_M siz_M itm_M tap_M now_M R rd_M kp_M bes_M ∧ ∀ j, (j < 64 ∨ 74 ≤ j) → E j = E0 j) := by
  refine MV.mk (by decide) rfl (Nat.le_of_ble_eq_true rfl) ?_
  intro p e s m args below meth c ls Q X hret hP hS hl
  have hl : lv_has ls 1 [(0, .ref (qa 64))] := hl
  have hfr : ∀ j, (j < 64 ∨ 74 ≤ j) → E0 j = E0 j := fun _ _ => rfl
  rw [fX6_begin] at hf
  refine lv_aload_n X.1 X.2.1 dX6_begin_0 rfl (lv_at hl 0 rfl) ?_
  refine x_get X hP hG_M.1 (by omega) rfl in_X6_begin_X6 7 (by decide) (by decide +kernel) rfl rfl dX6_begin_1 ?_
  refine lv_iconst (v := 0) X.1 X.2.1 dX6_begin_4 (by decide) ?_
  refine lv_aload_n X.1 X.2.1 dX6_begin_5 rfl (lv_at hl 0 rfl) ?_
  refine x_get X hP hG_M.1 (by omega) rfl in_X6_begin_X6 8 (by decide) (by decide +kernel) rfl rfl dX6_begin_6 ?_
  refine lv_iconst (v := 0) X.1 X.2.1 dX6_begin_9 (by decide) ?_
  refine lv_bipush (v := 38) X.1 X.2.1 dX6_begin_10 (by decide) ?_
  obtain ⟨r1, hr1, hf⟩ := bd_of hf
  refine x_callSv X hP hS (index := 114) (n := 5) (As := [.ref (qa (64 + 5)), .int 0, .ref (qa (64 + 6)), .int 0, .int 38]) (ct_X6_bring_d (by omega) hG_M.2.2.2.2.2.1 (by omega) hG_M.2.2.2.2.2.2.1 (by omega) hr1) ggX6_begin_X6_bring (by decide +kernel) (by decide +kernel) (by decide +kernel) rfl (by decide +kernel) ⟨by decide, by decide⟩ rfl hl.1 rfl (Nat.le_of_ble_eq_true rfl) dX6_begin_12 (fun E H locs hp hP hS => ?_)
  obtain ⟨hW_d, hk⟩ := hp
  have hG_M := Mo_set_6 hG_M hW_d hk
  have hfr : ∀ j, (j < 64 ∨ 74 ≤ j) → E j = E0 j := fun j o0 => (hk j (by omega)).trans (hfr j o0)
  obtain rfl := Option.some.inj hf
  exact hret _ _ _ _ _ dX6_begin_15 (⟨hG_M, hfr⟩) hP hS
def bX6_wornBy_4 (arr_s : Nat → Int32) (p2 : Int32) (K1 : ((Int32 × Int32)) → Option Int32) : ((Int32 × Int32)) → Option Int32
  | (v2_1, v3_1) => gin 25 191 (if (arr_s (Int32.toNatClampNeg 25)) ≤ v3_1 then (some v2_1) else (gin (13 + v3_1) 191 (if (arr_s (Int32.toNatClampNeg (13 + v3_1))) = p2 then (nm (v2_1 ||| (1 <<< (v3_1 &&& 31))) (fun x8 => nm (v3_1 + 1) (fun x9 => K1 (x8, x9)))) else (nm (v2_1 ||| 0) (fun x6 => nm (v3_1 + 1) (fun x7 => K1 (x6, x7)))))))
def fX6_wornBy (p2 : Int32)  (arr_s : Nat → Int32) : Option Int32 := lp (bX6_wornBy_4 arr_s p2) FU (0, 0)
set_option maxHeartbeats 4000000 in
set_option maxRecDepth 100000 in
theorem ct_X6_wornBy {l : Launch} {D : va_G} {g : Nat → ClassId} {qa : Nat → Nat} {E0 : Nat → va_E} {k : Nat} {p2 : Int32} {arr_s : Nat → Int32} (hb_s : k < 74) (hG_s : E0 k = .inl (g 0, 191, .inl arr_s)) {R : Int32} (hf : fX6_wornBy p2 arr_s = some R) : MI l yX6_wornBy wsX6_wornBy 0 D g qa E0 [.ref (qa k), .int p2] R (fun E => E = E0) := by
  refine MI.mk (by decide) rfl (Nat.le_of_ble_eq_true rfl) ?_
  intro p e s m args below meth c ls Q X hret hP hS hl
  have hl : lv_has ls 4 [(0, .ref (qa k)), (1, .int p2)] := hl
  rw [fX6_wornBy] at hf
  refine lv_iconst (v := 0) X.1 X.2.1 dX6_wornBy_0 (by decide) ?_
  refine lv_istore_n (lv' := [(2, .int 0), (0, .ref (qa k)), (1, .int p2)]) X.1 X.2.1 dX6_wornBy_1 rfl hl (by decide) rfl (fun ls hl => ?_)
  refine lv_iconst (v := 0) X.1 X.2.1 dX6_wornBy_2 (by decide) ?_
  refine lv_istore_n (lv' := [(3, .int 0), (2, .int 0), (0, .ref (qa k)), (1, .int p2)]) X.1 X.2.1 dX6_wornBy_3 rfl hl (by decide) rfl (fun ls hl => ?_)
  have lp1 : ∀ (n1 : Nat) (v2_1 : Int32) (v3_1 : Int32) (H : Heap) (locs : List Loc) (ls : Array Slot), lp (bX6_wornBy_4 arr_s p2) n1 (v2_1, v3_1) = some R → va_P D vwCl (WD qa E0) H → va_S (gA qa s.heap.size) s.heap H locs → lv_has ls 4 [(0, .ref (qa k)), (1, .int p2), (2, .int v2_1), (3, .int v3_1)] → W p l e (rmf 0) s m args below meth c H locs 0 0 Q (F0 m 4 ls []) := by
    intro n1
    induction n1 with
    | zero =>
      intro v2_1 v3_1 H locs ls hf
      exact absurd hf (by intro h; cases h)
    | succ n1 ih1 =>
      intro v2_1 v3_1 H locs ls hf hP hS hl
      have hf : bX6_wornBy_4 arr_s p2 (lp (bX6_wornBy_4 arr_s p2) n1) (v2_1, v3_1) = some R := hf
      rw [bX6_wornBy_4] at hf
      refine lv_iload_n X.1 X.2.1 dX6_wornBy_4 rfl (lv_at hl 3 rfl) ?_
      refine lv_aload_n X.1 X.2.1 dX6_wornBy_5 rfl (lv_at hl 0 rfl) ?_
      refine lv_bipush (v := 25) X.1 X.2.1 dX6_wornBy_6 (by decide) ?_
      obtain ⟨hi2, hf⟩ := gin_of hf
      refine x_iald X hP hG_s (by omega) hi2 dX6_wornBy_8 ?_
      refine lv_icmp_ge (tgt := 38) X.1 X.2.1 dX6_wornBy_9 (by decide) (fun c3 => ?_) (fun c3 => ?_)
      · have hf := ifp hf c3
        refine lv_iload_n X.1 X.2.1 dX6_wornBy_38 rfl (lv_at hl 2 rfl) ?_
        obtain rfl := Option.some.inj hf
        exact hret _ _ _ _ _ _ dX6_wornBy_39 rfl rfl (rfl) hP hS
      · have hf := ifn hf c3
        refine lv_iload_n X.1 X.2.1 dX6_wornBy_12 rfl (lv_at hl 2 rfl) ?_
        refine lv_aload_n X.1 X.2.1 dX6_wornBy_13 rfl (lv_at hl 0 rfl) ?_
        refine lv_bipush (v := 13) X.1 X.2.1 dX6_wornBy_14 (by decide) ?_
        refine lv_iload_n X.1 X.2.1 dX6_wornBy_16 rfl (lv_at hl 3 rfl) ?_
        refine lv_iadd X.1 X.2.1 dX6_wornBy_17 ?_
        obtain ⟨hi4, hf⟩ := gin_of hf
        refine x_iald X hP hG_s (by omega) hi4 dX6_wornBy_18 ?_
        refine lv_iload_n X.1 X.2.1 dX6_wornBy_19 rfl (lv_at hl 1 rfl) ?_
        refine lv_icmp_ne (tgt := 29) X.1 X.2.1 dX6_wornBy_20 (by decide) (fun c5 => ?_) (fun c5 => ?_)
        · have hf := ifn hf c5
          refine lv_iconst (v := 0) X.1 X.2.1 dX6_wornBy_29 (by decide) ?_
          refine lv_ior X.1 X.2.1 dX6_wornBy_30 ?_
          obtain ⟨x6, ex6, hf⟩ := nm_of hf
          refine lv_top_as ex6 ?_
          refine lv_istore_n (lv' := [(2, .int x6), (0, .ref (qa k)), (1, .int p2), (3, .int v3_1)]) X.1 X.2.1 dX6_wornBy_31 rfl hl (by decide) rfl (fun ls hl => ?_)
          obtain ⟨x7, ex7, hf⟩ := nm_of hf
          refine lv_iinc (v := x7) (lv' := [(3, .int x7), (2, .int x6), (0, .ref (qa k)), (1, .int p2)]) X.1 X.2.1 dX6_wornBy_32 hl (k := 3) rfl (by rw [ex7]; rfl) (by decide) rfl (fun ls hl => ?_)
          refine lv_goto (tgt := 4) X.1 X.2.1 dX6_wornBy_35 (by decide) ?_
          exact ih1 x6 x7 _ _ _ hf hP hS (lv_sub hl [2, 3, 1, 0] rfl)
        · have hf := ifp hf c5
          refine lv_iconst (v := 1) X.1 X.2.1 dX6_wornBy_23 (by decide) ?_
          refine lv_iload_n X.1 X.2.1 dX6_wornBy_24 rfl (lv_at hl 3 rfl) ?_
          refine lv_ishl X.1 X.2.1 dX6_wornBy_25 ?_
          refine lv_goto (tgt := 30) X.1 X.2.1 dX6_wornBy_26 (by decide) ?_
          refine lv_ior X.1 X.2.1 dX6_wornBy_30 ?_
          obtain ⟨x8, ex8, hf⟩ := nm_of hf
          refine lv_top_as ex8 ?_
          refine lv_istore_n (lv' := [(2, .int x8), (0, .ref (qa k)), (1, .int p2), (3, .int v3_1)]) X.1 X.2.1 dX6_wornBy_31 rfl hl (by decide) rfl (fun ls hl => ?_)
          obtain ⟨x9, ex9, hf⟩ := nm_of hf
          refine lv_iinc (v := x9) (lv' := [(3, .int x9), (2, .int x8), (0, .ref (qa k)), (1, .int p2)]) X.1 X.2.1 dX6_wornBy_32 hl (k := 3) rfl (by rw [ex9]; rfl) (by decide) rfl (fun ls hl => ?_)
          refine lv_goto (tgt := 4) X.1 X.2.1 dX6_wornBy_35 (by decide) ?_
          exact ih1 x8 x9 _ _ _ hf hP hS (lv_sub hl [2, 3, 1, 0] rfl)
  exact lp1 FU 0 0 _ _ _ hf hP hS (lv_sub hl [2, 3, 1, 0] rfl)
def bX6_bits_4 (p1 : Int32) (K1 : ((Int32 × Int32)) → Option Int32) : ((Int32 × Int32)) → Option Int32
  | (v1_1, v2_1) => if 6 ≤ v2_1 then (some v1_1) else (nm (v1_1 + ((p1 >>> (v2_1 &&& 31)) &&& 1)) (fun x3 => nm (v2_1 + 1) (fun x4 => K1 (x3, x4))))
def fX6_bits (p1 : Int32)   : Option Int32 := lp (bX6_bits_4 p1) FU (0, 0)
set_option maxHeartbeats 4000000 in
set_option maxRecDepth 100000 in
theorem ct_X6_bits {l : Launch} {D : va_G} {g : Nat → ClassId} {qa : Nat → Nat} {E0 : Nat → va_E} {p1 : Int32} {R : Int32} (hf : fX6_bits p1 = some R) : MI l yX6_bits wsX6_bits 0 D g qa E0 [.int p1] R (fun E => E = E0) := by
  refine MI.mk (by decide) rfl (Nat.le_of_ble_eq_true rfl) ?_
  intro p e s m args below meth c ls Q X hret hP hS hl
  have hl : lv_has ls 3 [(0, .int p1)] := hl
  rw [fX6_bits] at hf
  refine lv_iconst (v := 0) X.1 X.2.1 dX6_bits_0 (by decide) ?_
  refine lv_istore_n (lv' := [(1, .int 0), (0, .int p1)]) X.1 X.2.1 dX6_bits_1 rfl hl (by decide) rfl (fun ls hl => ?_)
  refine lv_iconst (v := 0) X.1 X.2.1 dX6_bits_2 (by decide) ?_
  refine lv_istore_n (lv' := [(2, .int 0), (1, .int 0), (0, .int p1)]) X.1 X.2.1 dX6_bits_3 rfl hl (by decide) rfl (fun ls hl => ?_)
  have lp1 : ∀ (n1 : Nat) (v1_1 : Int32) (v2_1 : Int32) (H : Heap) (locs : List Loc) (ls : Array Slot), lp (bX6_bits_4 p1) n1 (v1_1, v2_1) = some R → va_P D vwCl (WD qa E0) H → va_S (gA qa s.heap.size) s.heap H locs → lv_has ls 3 [(0, .int p1), (1, .int v1_1), (2, .int v2_1)] → W p l e (rmf 0) s m args below meth c H locs 0 0 Q (F0 m 4 ls []) := by
    intro n1
    induction n1 with
    | zero =>
      intro v1_1 v2_1 H locs ls hf
      exact absurd hf (by intro h; cases h)
    | succ n1 ih1 =>
      intro v1_1 v2_1 H locs ls hf hP hS hl
      have hf : bX6_bits_4 p1 (lp (bX6_bits_4 p1) n1) (v1_1, v2_1) = some R := hf
      rw [bX6_bits_4] at hf
      refine lv_iload_n X.1 X.2.1 dX6_bits_4 rfl (lv_at hl 2 rfl) ?_
      refine lv_bipush (v := 6) X.1 X.2.1 dX6_bits_5 (by decide) ?_
      refine lv_icmp_ge (tgt := 24) X.1 X.2.1 dX6_bits_7 (by decide) (fun c2 => ?_) (fun c2 => ?_)
      · have hf := ifp hf c2
        refine lv_iload_n X.1 X.2.1 dX6_bits_24 rfl (lv_at hl 1 rfl) ?_
        obtain rfl := Option.some.inj hf
        exact hret _ _ _ _ _ _ dX6_bits_25 rfl rfl (rfl) hP hS
      · have hf := ifn hf c2
        refine lv_iload_n X.1 X.2.1 dX6_bits_10 rfl (lv_at hl 1 rfl) ?_
        refine lv_iload_n X.1 X.2.1 dX6_bits_11 rfl (lv_at hl 0 rfl) ?_
        refine lv_iload_n X.1 X.2.1 dX6_bits_12 rfl (lv_at hl 2 rfl) ?_
        refine lv_ishr X.1 X.2.1 dX6_bits_13 ?_
        refine lv_iconst (v := 1) X.1 X.2.1 dX6_bits_14 (by decide) ?_
        refine lv_iand X.1 X.2.1 dX6_bits_15 ?_
        refine lv_iadd X.1 X.2.1 dX6_bits_16 ?_
        obtain ⟨x3, ex3, hf⟩ := nm_of hf
        refine lv_top_as ex3 ?_
        refine lv_istore_n (lv' := [(1, .int x3), (0, .int p1), (2, .int v2_1)]) X.1 X.2.1 dX6_bits_17 rfl hl (by decide) rfl (fun ls hl => ?_)
        obtain ⟨x4, ex4, hf⟩ := nm_of hf
        refine lv_iinc (v := x4) (lv' := [(2, .int x4), (1, .int x3), (0, .int p1)]) X.1 X.2.1 dX6_bits_18 hl (k := 2) rfl (by rw [ex4]; rfl) (by decide) rfl (fun ls hl => ?_)
        refine lv_goto (tgt := 4) X.1 X.2.1 dX6_bits_21 (by decide) ?_
        exact ih1 x3 x4 _ _ _ hf hP hS (lv_sub hl [2, 1, 0] rfl)
  exact lp1 FU 0 0 _ _ _ hf hP hS (lv_sub hl [2, 1, 0] rfl)
def fX6_bears (p2 : Int32)  (arr_s : Nat → Int32) : Option Int32 := gin (13 + p2) 191 (nm (arr_s (Int32.toNatClampNeg (13 + p2))) (fun x2 => if x2 = (-4) then (some 0) else (gin (7 + p2) 191 (nm (arr_s (Int32.toNatClampNeg (7 + p2))) (fun x5 => gin 0 191 (if ((arr_s (Int32.toNatClampNeg 0)) - (arr_s (Int32.toNatClampNeg 0)) / 2 * 2) = 1 then (nm (x5 + 3) (fun x29 => gin (26 + p2) 191 (if (arr_s (Int32.toNatClampNeg (26 + p2))) = 0 then (gin (32 + p2) 191 (if (arr_s (Int32.toNatClampNeg (32 + p2))) = x2 then (some (x5 / 2)) else (some x5))) else (if (arr_s (Int32.toNatClampNeg (26 + p2))) = 1 then (nm (2 * x5) (fun x35 => gin (32 + p2) 191 (if (arr_s (Int32.toNatClampNeg (32 + p2))) = x2 then (some (x35 / 2)) else (some x35)))) else (if (arr_s (Int32.toNatClampNeg (26 + p2))) = 2 then (gin (32 + p2) 191 (if (arr_s (Int32.toNatClampNeg (32 + p2))) = x2 then (some (x29 / 2)) else (some x29))) else (if (arr_s (Int32.toNatClampNeg (26 + p2))) = 3 then ((fX6_wornBy x2 arr_s).bind (fun r42 => (fX6_bits r42).bind (fun r43 => nm (((2 * x5) + r43) - 1) (fun x44 => gin (32 + p2) 191 (if (arr_s (Int32.toNatClampNeg (32 + p2))) = x2 then (some (x44 / 2)) else (some x44)))))) else (nm (x29 / 2) (fun x47 => gin (32 + p2) 191 (if (arr_s (Int32.toNatClampNeg (32 + p2))) = x2 then (some (x47 / 2)) else (some x47)))))))))) else (nm (x5 + 0) (fun x8 => gin (26 + p2) 191 (if (arr_s (Int32.toNatClampNeg (26 + p2))) = 0 then (gin (32 + p2) 191 (if (arr_s (Int32.toNatClampNeg (32 + p2))) = x2 then (some (x5 / 2)) else (some x5))) else (if (arr_s (Int32.toNatClampNeg (26 + p2))) = 1 then (nm (2 * x5) (fun x14 => gin (32 + p2) 191 (if (arr_s (Int32.toNatClampNeg (32 + p2))) = x2 then (some (x14 / 2)) else (some x14)))) else (if (arr_s (Int32.toNatClampNeg (26 + p2))) = 2 then (gin (32 + p2) 191 (if (arr_s (Int32.toNatClampNeg (32 + p2))) = x2 then (some (x8 / 2)) else (some x8))) else (if (arr_s (Int32.toNatClampNeg (26 + p2))) = 3 then ((fX6_wornBy x2 arr_s).bind (fun r21 => (fX6_bits r21).bind (fun r22 => nm (((2 * x5) + r22) - 1) (fun x23 => gin (32 + p2) 191 (if (arr_s (Int32.toNatClampNeg (32 + p2))) = x2 then (some (x23 / 2)) else (some x23)))))) else (nm (x8 / 2) (fun x26 => gin (32 + p2) 191 (if (arr_s (Int32.toNatClampNeg (32 + p2))) = x2 then (some (x26 / 2)) else (some x26))))))))))))))))
set_option maxHeartbeats 4000000 in
set_option maxRecDepth 100000 in
theorem ct_X6_bears {l : Launch} {D : va_G} {g : Nat → ClassId} {qa : Nat → Nat} {E0 : Nat → va_E} {k : Nat} {p2 : Int32} {arr_s : Nat → Int32} (hb_s : k < 74) (hG_s : E0 k = .inl (g 0, 191, .inl arr_s)) {R : Int32} (hf : fX6_bears p2 arr_s = some R) : MI l yX6_bears wsX6_bears 1 D g qa E0 [.ref (qa k), .int p2] R (fun E => E = E0) := by
  refine MI.mk (by decide) rfl (Nat.le_of_ble_eq_true rfl) ?_
  intro p e s m args below meth c ls Q X hret hP hS hl
  have hl : lv_has ls 6 [(0, .ref (qa k)), (1, .int p2)] := hl
  rw [fX6_bears] at hf
  refine lv_aload_n X.1 X.2.1 dX6_bears_0 rfl (lv_at hl 0 rfl) ?_
  refine lv_bipush (v := 13) X.1 X.2.1 dX6_bears_1 (by decide) ?_
  refine lv_iload_n X.1 X.2.1 dX6_bears_3 rfl (lv_at hl 1 rfl) ?_
  refine lv_iadd X.1 X.2.1 dX6_bears_4 ?_
  obtain ⟨hi1, hf⟩ := gin_of hf
  refine x_iald X hP hG_s (by omega) hi1 dX6_bears_5 ?_
  obtain ⟨x2, ex2, hf⟩ := nm_of hf
  refine lv_top_as ex2 ?_
  refine lv_istore_n (lv' := [(2, .int x2), (0, .ref (qa k)), (1, .int p2)]) X.1 X.2.1 dX6_bears_6 rfl hl (by decide) rfl (fun ls hl => ?_)
  refine lv_iload_n X.1 X.2.1 dX6_bears_7 rfl (lv_at hl 0 rfl) ?_
  refine lv_bipush (v := (-4)) X.1 X.2.1 dX6_bears_8 (by decide) ?_
  refine lv_icmp_ne (tgt := 15) X.1 X.2.1 dX6_bears_10 (by decide) (fun c3 => ?_) (fun c3 => ?_)
  · have hf := ifn hf c3
    refine lv_aload_n X.1 X.2.1 dX6_bears_15 rfl (lv_at hl 1 rfl) ?_
    refine lv_bipush (v := 7) X.1 X.2.1 dX6_bears_16 (by decide) ?_
    refine lv_iload_n X.1 X.2.1 dX6_bears_18 rfl (lv_at hl 2 rfl) ?_
    refine lv_iadd X.1 X.2.1 dX6_bears_19 ?_
    obtain ⟨hi4, hf⟩ := gin_of hf
    refine x_iald X hP hG_s (by omega) hi4 dX6_bears_20 ?_
    obtain ⟨x5, ex5, hf⟩ := nm_of hf
    refine lv_top_as ex5 ?_
    refine lv_istore_n (lv' := [(3, .int x5), (2, .int x2), (0, .ref (qa k)), (1, .int p2)]) X.1 X.2.1 dX6_bears_21 rfl hl (by decide) rfl (fun ls hl => ?_)
    refine lv_iload_n X.1 X.2.1 dX6_bears_22 rfl (lv_at hl 0 rfl) ?_
    refine lv_aload_n X.1 X.2.1 dX6_bears_23 rfl (lv_at hl 2 rfl) ?_
    refine lv_iconst (v := 0) X.1 X.2.1 dX6_bears_24 (by decide) ?_
    obtain ⟨hi6, hf⟩ := gin_of hf
    refine x_iald X hP hG_s (by omega) hi6 dX6_bears_25 ?_
    refine lv_iconst (v := 2) X.1 X.2.1 dX6_bears_26 (by decide) ?_
    refine lv_irem X.1 X.2.1 dX6_bears_27 (by decide) ?_
    refine lv_iconst (v := 1) X.1 X.2.1 dX6_bears_28 (by decide) ?_
    refine lv_icmp_ne (tgt := 36) X.1 X.2.1 dX6_bears_29 (by decide) (fun c7 => ?_) (fun c7 => ?_)
    · have hf := ifn hf c7
      refine lv_iconst (v := 0) X.1 X.2.1 dX6_bears_36 (by decide) ?_
      refine lv_iadd X.1 X.2.1 dX6_bears_37 ?_
      obtain ⟨x8, ex8, hf⟩ := nm_of hf
      refine lv_top_as ex8 ?_
      refine lv_istore (lv' := [(4, .int x8), (3, .int x5), (2, .int x2), (0, .ref (qa k)), (1, .int p2)]) X.1 X.2.1 dX6_bears_38 hl (by decide) rfl (fun ls hl => ?_)
      refine lv_iload_n X.1 X.2.1 dX6_bears_40 rfl (lv_at hl 1 rfl) ?_
      refine lv_istore (lv' := [(5, .int x5), (4, .int x8), (3, .int x5), (2, .int x2), (0, .ref (qa k)), (1, .int p2)]) X.1 X.2.1 dX6_bears_41 hl (by decide) rfl (fun ls hl => ?_)
      refine lv_aload_n X.1 X.2.1 dX6_bears_43 rfl (lv_at hl 4 rfl) ?_
      refine lv_bipush (v := 26) X.1 X.2.1 dX6_bears_44 (by decide) ?_
      refine lv_iload_n X.1 X.2.1 dX6_bears_46 rfl (lv_at hl 5 rfl) ?_
      refine lv_iadd X.1 X.2.1 dX6_bears_47 ?_
      obtain ⟨hi9, hf⟩ := gin_of hf
      refine x_iald X hP hG_s (by omega) hi9 dX6_bears_48 ?_
      by_cases w10 : (arr_s (Int32.toNatClampNeg (26 + p2))) = 0
      · have hf := ifp hf w10
        refine lv_tableIn (tgt := 80) X.1 X.2.1 dX6_bears_49 (by rw [w10]; decide) (by rw [w10]; decide) (off := 31) (by rw [w10]; decide) (by decide) ?_
        refine lv_iload_n X.1 X.2.1 dX6_bears_80 rfl (lv_at hl 2 rfl) ?_
        refine lv_istore (lv' := [(5, .int x5), (4, .int x8), (3, .int x5), (2, .int x2), (0, .ref (qa k)), (1, .int p2)]) X.1 X.2.1 dX6_bears_81 hl (by decide) rfl (fun ls hl => ?_)
        refine lv_goto (tgt := 126) X.1 X.2.1 dX6_bears_83 (by decide) ?_
        refine lv_aload_n X.1 X.2.1 dX6_bears_126 rfl (lv_at hl 4 rfl) ?_
        refine lv_bipush (v := 32) X.1 X.2.1 dX6_bears_127 (by decide) ?_
        refine lv_iload_n X.1 X.2.1 dX6_bears_129 rfl (lv_at hl 5 rfl) ?_
        refine lv_iadd X.1 X.2.1 dX6_bears_130 ?_
        obtain ⟨hi11, hf⟩ := gin_of hf
        refine x_iald X hP hG_s (by omega) hi11 dX6_bears_131 ?_
        refine lv_iload_n X.1 X.2.1 dX6_bears_132 rfl (lv_at hl 3 rfl) ?_
        refine lv_icmp_ne (tgt := 143) X.1 X.2.1 dX6_bears_133 (by decide) (fun c12 => ?_) (fun c12 => ?_)
        · have hf := ifn hf c12
          refine lv_iload X.1 X.2.1 dX6_bears_143 (lv_at hl 0 rfl) ?_
          obtain rfl := Option.some.inj hf
          exact hret _ _ _ _ _ _ dX6_bears_145 rfl rfl (rfl) hP hS
        · have hf := ifp hf c12
          refine lv_iload X.1 X.2.1 dX6_bears_136 (lv_at hl 0 rfl) ?_
          refine lv_iconst (v := 2) X.1 X.2.1 dX6_bears_138 (by decide) ?_
          refine lv_idiv X.1 X.2.1 dX6_bears_139 (by decide) ?_
          refine lv_goto (tgt := 145) X.1 X.2.1 dX6_bears_140 (by decide) ?_
          obtain rfl := Option.some.inj hf
          exact hret _ _ _ _ _ _ dX6_bears_145 rfl rfl (rfl) hP hS
      have hf := ifn hf w10
      by_cases w13 : (arr_s (Int32.toNatClampNeg (26 + p2))) = 1
      · have hf := ifp hf w13
        refine lv_tableIn (tgt := 86) X.1 X.2.1 dX6_bears_49 (by rw [w13]; decide) (by rw [w13]; decide) (off := 37) (by rw [w13]; decide) (by decide) ?_
        refine lv_iconst (v := 2) X.1 X.2.1 dX6_bears_86 (by decide) ?_
        refine lv_iload_n X.1 X.2.1 dX6_bears_87 rfl (lv_at hl 2 rfl) ?_
        refine lv_imul X.1 X.2.1 dX6_bears_88 ?_
        obtain ⟨x14, ex14, hf⟩ := nm_of hf
        refine lv_top_as ex14 ?_
        refine lv_istore (lv' := [(5, .int x14), (4, .int x8), (3, .int x5), (2, .int x2), (0, .ref (qa k)), (1, .int p2)]) X.1 X.2.1 dX6_bears_89 hl (by decide) rfl (fun ls hl => ?_)
        refine lv_goto (tgt := 126) X.1 X.2.1 dX6_bears_91 (by decide) ?_
        refine lv_aload_n X.1 X.2.1 dX6_bears_126 rfl (lv_at hl 4 rfl) ?_
        refine lv_bipush (v := 32) X.1 X.2.1 dX6_bears_127 (by decide) ?_
        refine lv_iload_n X.1 X.2.1 dX6_bears_129 rfl (lv_at hl 5 rfl) ?_
        refine lv_iadd X.1 X.2.1 dX6_bears_130 ?_
        obtain ⟨hi15, hf⟩ := gin_of hf
        refine x_iald X hP hG_s (by omega) hi15 dX6_bears_131 ?_
        refine lv_iload_n X.1 X.2.1 dX6_bears_132 rfl (lv_at hl 3 rfl) ?_
        refine lv_icmp_ne (tgt := 143) X.1 X.2.1 dX6_bears_133 (by decide) (fun c16 => ?_) (fun c16 => ?_)
        · have hf := ifn hf c16
          refine lv_iload X.1 X.2.1 dX6_bears_143 (lv_at hl 0 rfl) ?_
          obtain rfl := Option.some.inj hf
          exact hret _ _ _ _ _ _ dX6_bears_145 rfl rfl (rfl) hP hS
        · have hf := ifp hf c16
          refine lv_iload X.1 X.2.1 dX6_bears_136 (lv_at hl 0 rfl) ?_
          refine lv_iconst (v := 2) X.1 X.2.1 dX6_bears_138 (by decide) ?_
          refine lv_idiv X.1 X.2.1 dX6_bears_139 (by decide) ?_
          refine lv_goto (tgt := 145) X.1 X.2.1 dX6_bears_140 (by decide) ?_
          obtain rfl := Option.some.inj hf
          exact hret _ _ _ _ _ _ dX6_bears_145 rfl rfl (rfl) hP hS
      have hf := ifn hf w13
      by_cases w17 : (arr_s (Int32.toNatClampNeg (26 + p2))) = 2
      · have hf := ifp hf w17
        refine lv_tableIn (tgt := 94) X.1 X.2.1 dX6_bears_49 (by rw [w17]; decide) (by rw [w17]; decide) (off := 45) (by rw [w17]; decide) (by decide) ?_
        refine lv_iload X.1 X.2.1 dX6_bears_94 (lv_at hl 1 rfl) ?_
        refine lv_istore (lv' := [(5, .int x8), (4, .int x8), (3, .int x5), (2, .int x2), (0, .ref (qa k)), (1, .int p2)]) X.1 X.2.1 dX6_bears_96 hl (by decide) rfl (fun ls hl => ?_)
        refine lv_goto (tgt := 126) X.1 X.2.1 dX6_bears_98 (by decide) ?_
        refine lv_aload_n X.1 X.2.1 dX6_bears_126 rfl (lv_at hl 4 rfl) ?_
        refine lv_bipush (v := 32) X.1 X.2.1 dX6_bears_127 (by decide) ?_
        refine lv_iload_n X.1 X.2.1 dX6_bears_129 rfl (lv_at hl 5 rfl) ?_
        refine lv_iadd X.1 X.2.1 dX6_bears_130 ?_
        obtain ⟨hi18, hf⟩ := gin_of hf
        refine x_iald X hP hG_s (by omega) hi18 dX6_bears_131 ?_
        refine lv_iload_n X.1 X.2.1 dX6_bears_132 rfl (lv_at hl 3 rfl) ?_
        refine lv_icmp_ne (tgt := 143) X.1 X.2.1 dX6_bears_133 (by decide) (fun c19 => ?_) (fun c19 => ?_)
        · have hf := ifn hf c19
          refine lv_iload X.1 X.2.1 dX6_bears_143 (lv_at hl 0 rfl) ?_
          obtain rfl := Option.some.inj hf
          exact hret _ _ _ _ _ _ dX6_bears_145 rfl rfl (rfl) hP hS
        · have hf := ifp hf c19
          refine lv_iload X.1 X.2.1 dX6_bears_136 (lv_at hl 0 rfl) ?_
          refine lv_iconst (v := 2) X.1 X.2.1 dX6_bears_138 (by decide) ?_
          refine lv_idiv X.1 X.2.1 dX6_bears_139 (by decide) ?_
          refine lv_goto (tgt := 145) X.1 X.2.1 dX6_bears_140 (by decide) ?_
          obtain rfl := Option.some.inj hf
          exact hret _ _ _ _ _ _ dX6_bears_145 rfl rfl (rfl) hP hS
      have hf := ifn hf w17
      by_cases w20 : (arr_s (Int32.toNatClampNeg (26 + p2))) = 3
      · have hf := ifp hf w20
        refine lv_tableIn (tgt := 101) X.1 X.2.1 dX6_bears_49 (by rw [w20]; decide) (by rw [w20]; decide) (off := 52) (by rw [w20]; decide) (by decide) ?_
        refine lv_iconst (v := 2) X.1 X.2.1 dX6_bears_101 (by decide) ?_
        refine lv_iload_n X.1 X.2.1 dX6_bears_102 rfl (lv_at hl 2 rfl) ?_
        refine lv_imul X.1 X.2.1 dX6_bears_103 ?_
        refine lv_aload_n X.1 X.2.1 dX6_bears_104 rfl (lv_at hl 4 rfl) ?_
        refine lv_iload_n X.1 X.2.1 dX6_bears_105 rfl (lv_at hl 3 rfl) ?_
        obtain ⟨r21, hr21, hf⟩ := bd_of hf
        refine x_rdSi X hP hS (index := 54) (n := 2) (As := [.ref (qa k), .int x2]) (ct_X6_wornBy (by omega) hG_s hr21) ggX6_bears_X6_wornBy (by decide +kernel) (by decide +kernel) (by decide +kernel) rfl (by decide +kernel) ⟨by decide, by decide⟩ rfl hl.1 rfl (Nat.le_of_ble_eq_true rfl) dX6_bears_106 (fun H locs hP hS => ?_)
        obtain ⟨r22, hr22, hf⟩ := bd_of hf
        refine x_rdSi X hP hS (index := 57) (n := 1) (As := [.int r21]) (ct_X6_bits  hr22) ggX6_bears_X6_bits (by decide +kernel) (by decide +kernel) (by decide +kernel) rfl (by decide +kernel) ⟨by decide, by decide⟩ rfl hl.1 rfl (Nat.le_of_ble_eq_true rfl) dX6_bears_109 (fun H locs hP hS => ?_)
        refine lv_iadd X.1 X.2.1 dX6_bears_112 ?_
        refine lv_iconst (v := 1) X.1 X.2.1 dX6_bears_113 (by decide) ?_
        refine lv_isub X.1 X.2.1 dX6_bears_114 ?_
        obtain ⟨x23, ex23, hf⟩ := nm_of hf
        refine lv_top_as ex23 ?_
        refine lv_istore (lv' := [(5, .int x23), (4, .int x8), (3, .int x5), (2, .int x2), (0, .ref (qa k)), (1, .int p2)]) X.1 X.2.1 dX6_bears_115 hl (by decide) rfl (fun ls hl => ?_)
        refine lv_goto (tgt := 126) X.1 X.2.1 dX6_bears_117 (by decide) ?_
        refine lv_aload_n X.1 X.2.1 dX6_bears_126 rfl (lv_at hl 4 rfl) ?_
        refine lv_bipush (v := 32) X.1 X.2.1 dX6_bears_127 (by decide) ?_
        refine lv_iload_n X.1 X.2.1 dX6_bears_129 rfl (lv_at hl 5 rfl) ?_
        refine lv_iadd X.1 X.2.1 dX6_bears_130 ?_
        obtain ⟨hi24, hf⟩ := gin_of hf
        refine x_iald X hP hG_s (by omega) hi24 dX6_bears_131 ?_
        refine lv_iload_n X.1 X.2.1 dX6_bears_132 rfl (lv_at hl 3 rfl) ?_
        refine lv_icmp_ne (tgt := 143) X.1 X.2.1 dX6_bears_133 (by decide) (fun c25 => ?_) (fun c25 => ?_)
        · have hf := ifn hf c25
          refine lv_iload X.1 X.2.1 dX6_bears_143 (lv_at hl 0 rfl) ?_
          obtain rfl := Option.some.inj hf
          exact hret _ _ _ _ _ _ dX6_bears_145 rfl rfl (rfl) hP hS
        · have hf := ifp hf c25
          refine lv_iload X.1 X.2.1 dX6_bears_136 (lv_at hl 0 rfl) ?_
          refine lv_iconst (v := 2) X.1 X.2.1 dX6_bears_138 (by decide) ?_
          refine lv_idiv X.1 X.2.1 dX6_bears_139 (by decide) ?_
          refine lv_goto (tgt := 145) X.1 X.2.1 dX6_bears_140 (by decide) ?_
          obtain rfl := Option.some.inj hf
          exact hret _ _ _ _ _ _ dX6_bears_145 rfl rfl (rfl) hP hS
      have hf := ifn hf w20
      refine lv_tableOut (tgt := 120) X.1 X.2.1 dX6_bears_49 (by have := i_ne 0 (0) (by decide) w10; have := i_ne 1 (1) (by decide) w13; have := i_ne 2 (2) (by decide) w17; have := i_ne 3 (3) (by decide) w20; omega) (by decide) ?_
      refine lv_iload X.1 X.2.1 dX6_bears_120 (lv_at hl 1 rfl) ?_
      refine lv_iconst (v := 2) X.1 X.2.1 dX6_bears_122 (by decide) ?_
      refine lv_idiv X.1 X.2.1 dX6_bears_123 (by decide) ?_
      obtain ⟨x26, ex26, hf⟩ := nm_of hf
      refine lv_top_as ex26 ?_
      refine lv_istore (lv' := [(5, .int x26), (4, .int x8), (3, .int x5), (2, .int x2), (0, .ref (qa k)), (1, .int p2)]) X.1 X.2.1 dX6_bears_124 hl (by decide) rfl (fun ls hl => ?_)
      refine lv_aload_n X.1 X.2.1 dX6_bears_126 rfl (lv_at hl 4 rfl) ?_
      refine lv_bipush (v := 32) X.1 X.2.1 dX6_bears_127 (by decide) ?_
      refine lv_iload_n X.1 X.2.1 dX6_bears_129 rfl (lv_at hl 5 rfl) ?_
      refine lv_iadd X.1 X.2.1 dX6_bears_130 ?_
      obtain ⟨hi27, hf⟩ := gin_of hf
      refine x_iald X hP hG_s (by omega) hi27 dX6_bears_131 ?_
      refine lv_iload_n X.1 X.2.1 dX6_bears_132 rfl (lv_at hl 3 rfl) ?_
      refine lv_icmp_ne (tgt := 143) X.1 X.2.1 dX6_bears_133 (by decide) (fun c28 => ?_) (fun c28 => ?_)
      · have hf := ifn hf c28
        refine lv_iload X.1 X.2.1 dX6_bears_143 (lv_at hl 0 rfl) ?_
        obtain rfl := Option.some.inj hf
        exact hret _ _ _ _ _ _ dX6_bears_145 rfl rfl (rfl) hP hS
      · have hf := ifp hf c28
        refine lv_iload X.1 X.2.1 dX6_bears_136 (lv_at hl 0 rfl) ?_
        refine lv_iconst (v := 2) X.1 X.2.1 dX6_bears_138 (by decide) ?_
        refine lv_idiv X.1 X.2.1 dX6_bears_139 (by decide) ?_
        refine lv_goto (tgt := 145) X.1 X.2.1 dX6_bears_140 (by decide) ?_
        obtain rfl := Option.some.inj hf
        exact hret _ _ _ _ _ _ dX6_bears_145 rfl rfl (rfl) hP hS
    · have hf := ifp hf c7
      refine lv_iconst (v := 3) X.1 X.2.1 dX6_bears_32 (by decide) ?_
      refine lv_goto (tgt := 37) X.1 X.2.1 dX6_bears_33 (by decide) ?_
      refine lv_iadd X.1 X.2.1 dX6_bears_37 ?_
      obtain ⟨x29, ex29, hf⟩ := nm_of hf
      refine lv_top_as ex29 ?_
      refine lv_istore (lv' := [(4, .int x29), (3, .int x5), (2, .int x2), (0, .ref (qa k)), (1, .int p2)]) X.1 X.2.1 dX6_bears_38 hl (by decide) rfl (fun ls hl => ?_)
      refine lv_iload_n X.1 X.2.1 dX6_bears_40 rfl (lv_at hl 1 rfl) ?_
      refine lv_istore (lv' := [(5, .int x5), (4, .int x29), (3, .int x5), (2, .int x2), (0, .ref (qa k)), (1, .int p2)]) X.1 X.2.1 dX6_bears_41 hl (by decide) rfl (fun ls hl => ?_)
      refine lv_aload_n X.1 X.2.1 dX6_bears_43 rfl (lv_at hl 4 rfl) ?_
      refine lv_bipush (v := 26) X.1 X.2.1 dX6_bears_44 (by decide) ?_
      refine lv_iload_n X.1 X.2.1 dX6_bears_46 rfl (lv_at hl 5 rfl) ?_
      refine lv_iadd X.1 X.2.1 dX6_bears_47 ?_
      obtain ⟨hi30, hf⟩ := gin_of hf
      refine x_iald X hP hG_s (by omega) hi30 dX6_bears_48 ?_
      by_cases w31 : (arr_s (Int32.toNatClampNeg (26 + p2))) = 0
      · have hf := ifp hf w31
        refine lv_tableIn (tgt := 80) X.1 X.2.1 dX6_bears_49 (by rw [w31]; decide) (by rw [w31]; decide) (off := 31) (by rw [w31]; decide) (by decide) ?_
        refine lv_iload_n X.1 X.2.1 dX6_bears_80 rfl (lv_at hl 2 rfl) ?_
        refine lv_istore (lv' := [(5, .int x5), (4, .int x29), (3, .int x5), (2, .int x2), (0, .ref (qa k)), (1, .int p2)]) X.1 X.2.1 dX6_bears_81 hl (by decide) rfl (fun ls hl => ?_)
        refine lv_goto (tgt := 126) X.1 X.2.1 dX6_bears_83 (by decide) ?_
        refine lv_aload_n X.1 X.2.1 dX6_bears_126 rfl (lv_at hl 4 rfl) ?_
        refine lv_bipush (v := 32) X.1 X.2.1 dX6_bears_127 (by decide) ?_
        refine lv_iload_n X.1 X.2.1 dX6_bears_129 rfl (lv_at hl 5 rfl) ?_
        refine lv_iadd X.1 X.2.1 dX6_bears_130 ?_
        obtain ⟨hi32, hf⟩ := gin_of hf
        refine x_iald X hP hG_s (by omega) hi32 dX6_bears_131 ?_
        refine lv_iload_n X.1 X.2.1 dX6_bears_132 rfl (lv_at hl 3 rfl) ?_
        refine lv_icmp_ne (tgt := 143) X.1 X.2.1 dX6_bears_133 (by decide) (fun c33 => ?_) (fun c33 => ?_)
        · have hf := ifn hf c33
          refine lv_iload X.1 X.2.1 dX6_bears_143 (lv_at hl 0 rfl) ?_
          obtain rfl := Option.some.inj hf
          exact hret _ _ _ _ _ _ dX6_bears_145 rfl rfl (rfl) hP hS
        · have hf := ifp hf c33
          refine lv_iload X.1 X.2.1 dX6_bears_136 (lv_at hl 0 rfl) ?_
          refine lv_iconst (v := 2) X.1 X.2.1 dX6_bears_138 (by decide) ?_
          refine lv_idiv X.1 X.2.1 dX6_bears_139 (by decide) ?_
          refine lv_goto (tgt := 145) X.1 X.2.1 dX6_bears_140 (by decide) ?_
          obtain rfl := Option.some.inj hf
          exact hret _ _ _ _ _ _ dX6_bears_145 rfl rfl (rfl) hP hS
      have hf := ifn hf w31
      by_cases w34 : (arr_s (Int32.toNatClampNeg (26 + p2))) = 1
      · have hf := ifp hf w34
        refine lv_tableIn (tgt := 86) X.1 X.2.1 dX6_bears_49 (by rw [w34]; decide) (by rw [w34]; decide) (off := 37) (by rw [w34]; decide) (by decide) ?_
        refine lv_iconst (v := 2) X.1 X.2.1 dX6_bears_86 (by decide) ?_
        refine lv_iload_n X.1 X.2.1 dX6_bears_87 rfl (lv_at hl 2 rfl) ?_
        refine lv_imul X.1 X.2.1 dX6_bears_88 ?_
        obtain ⟨x35, ex35, hf⟩ := nm_of hf
        refine lv_top_as ex35 ?_
        refine lv_istore (lv' := [(5, .int x35), (4, .int x29), (3, .int x5), (2, .int x2), (0, .ref (qa k)), (1, .int p2)]) X.1 X.2.1 dX6_bears_89 hl (by decide) rfl (fun ls hl => ?_)
        refine lv_goto (tgt := 126) X.1 X.2.1 dX6_bears_91 (by decide) ?_
        refine lv_aload_n X.1 X.2.1 dX6_bears_126 rfl (lv_at hl 4 rfl) ?_
        refine lv_bipush (v := 32) X.1 X.2.1 dX6_bears_127 (by decide) ?_
        refine lv_iload_n X.1 X.2.1 dX6_bears_129 rfl (lv_at hl 5 rfl) ?_
        refine lv_iadd X.1 X.2.1 dX6_bears_130 ?_
        obtain ⟨hi36, hf⟩ := gin_of hf
        refine x_iald X hP hG_s (by omega) hi36 dX6_bears_131 ?_
        refine lv_iload_n X.1 X.2.1 dX6_bears_132 rfl (lv_at hl 3 rfl) ?_
        refine lv_icmp_ne (tgt := 143) X.1 X.2.1 dX6_bears_133 (by decide) (fun c37 => ?_) (fun c37 => ?_)
        · have hf := ifn hf c37
          refine lv_iload X.1 X.2.1 dX6_bears_143 (lv_at hl 0 rfl) ?_
          obtain rfl := Option.some.inj hf
          exact hret _ _ _ _ _ _ dX6_bears_145 rfl rfl (rfl) hP hS
        · have hf := ifp hf c37
          refine lv_iload X.1 X.2.1 dX6_bears_136 (lv_at hl 0 rfl) ?_
          refine lv_iconst (v := 2) X.1 X.2.1 dX6_bears_138 (by decide) ?_
          refine lv_idiv X.1 X.2.1 dX6_bears_139 (by decide) ?_
          refine lv_goto (tgt := 145) X.1 X.2.1 dX6_bears_140 (by decide) ?_
          obtain rfl := Option.some.inj hf
          exact hret _ _ _ _ _ _ dX6_bears_145 rfl rfl (rfl) hP hS
      have hf := ifn hf w34
      by_cases w38 : (arr_s (Int32.toNatClampNeg (26 + p2))) = 2
      · have hf := ifp hf w38
        refine lv_tableIn (tgt := 94) X.1 X.2.1 dX6_bears_49 (by rw [w38]; decide) (by rw [w38]; decide) (off := 45) (by rw [w38]; decide) (by decide) ?_
        refine lv_iload X.1 X.2.1 dX6_bears_94 (lv_at hl 1 rfl) ?_
        refine lv_istore (lv' := [(5, .int x29), (4, .int x29), (3, .int x5), (2, .int x2), (0, .ref (qa k)), (1, .int p2)]) X.1 X.2.1 dX6_bears_96 hl (by decide) rfl (fun ls hl => ?_)
        refine lv_goto (tgt := 126) X.1 X.2.1 dX6_bears_98 (by decide) ?_
        refine lv_aload_n X.1 X.2.1 dX6_bears_126 rfl (lv_at hl 4 rfl) ?_
        refine lv_bipush (v := 32) X.1 X.2.1 dX6_bears_127 (by decide) ?_
        refine lv_iload_n X.1 X.2.1 dX6_bears_129 rfl (lv_at hl 5 rfl) ?_
        refine lv_iadd X.1 X.2.1 dX6_bears_130 ?_
        obtain ⟨hi39, hf⟩ := gin_of hf
        refine x_iald X hP hG_s (by omega) hi39 dX6_bears_131 ?_
        refine lv_iload_n X.1 X.2.1 dX6_bears_132 rfl (lv_at hl 3 rfl) ?_
        refine lv_icmp_ne (tgt := 143) X.1 X.2.1 dX6_bears_133 (by decide) (fun c40 => ?_) (fun c40 => ?_)
        · have hf := ifn hf c40
          refine lv_iload X.1 X.2.1 dX6_bears_143 (lv_at hl 0 rfl) ?_
          obtain rfl := Option.some.inj hf
          exact hret _ _ _ _ _ _ dX6_bears_145 rfl rfl (rfl) hP hS
        · have hf := ifp hf c40
          refine lv_iload X.1 X.2.1 dX6_bears_136 (lv_at hl 0 rfl) ?_
          refine lv_iconst (v := 2) X.1 X.2.1 dX6_bears_138 (by decide) ?_
          refine lv_idiv X.1 X.2.1 dX6_bears_139 (by decide) ?_
          refine lv_goto (tgt := 145) X.1 X.2.1 dX6_bears_140 (by decide) ?_
          obtain rfl := Option.some.inj hf
          exact hret _ _ _ _ _ _ dX6_bears_145 rfl rfl (rfl) hP hS
      have hf := ifn hf w38
      by_cases w41 : (arr_s (Int32.toNatClampNeg (26 + p2))) = 3
      · have hf := ifp hf w41
        refine lv_tableIn (tgt := 101) X.1 X.2.1 dX6_bears_49 (by rw [w41]; decide) (by rw [w41]; decide) (off := 52) (by rw [w41]; decide) (by decide) ?_
        refine lv_iconst (v := 2) X.1 X.2.1 dX6_bears_101 (by decide) ?_
        refine lv_iload_n X.1 X.2.1 dX6_bears_102 rfl (lv_at hl 2 rfl) ?_
        refine lv_imul X.1 X.2.1 dX6_bears_103 ?_
        refine lv_aload_n X.1 X.2.1 dX6_bears_104 rfl (lv_at hl 4 rfl) ?_
        refine lv_iload_n X.1 X.2.1 dX6_bears_105 rfl (lv_at hl 3 rfl) ?_
        obtain ⟨r42, hr42, hf⟩ := bd_of hf
        refine x_rdSi X hP hS (index := 54) (n := 2) (As := [.ref (qa k), .int x2]) (ct_X6_wornBy (by omega) hG_s hr42) ggX6_bears_X6_wornBy (by decide +kernel) (by decide +kernel) (by decide +kernel) rfl (by decide +kernel) ⟨by decide, by decide⟩ rfl hl.1 rfl (Nat.le_of_ble_eq_true rfl) dX6_bears_106 (fun H locs hP hS => ?_)
        obtain ⟨r43, hr43, hf⟩ := bd_of hf
        refine x_rdSi X hP hS (index := 57) (n := 1) (As := [.int r42]) (ct_X6_bits  hr43) ggX6_bears_X6_bits (by decide +kernel) (by decide +kernel) (by decide +kernel) rfl (by decide +kernel) ⟨by decide, by decide⟩ rfl hl.1 rfl (Nat.le_of_ble_eq_true rfl) dX6_bears_109 (fun H locs hP hS => ?_)
        refine lv_iadd X.1 X.2.1 dX6_bears_112 ?_
        refine lv_iconst (v := 1) X.1 X.2.1 dX6_bears_113 (by decide) ?_
        refine lv_isub X.1 X.2.1 dX6_bears_114 ?_
        obtain ⟨x44, ex44, hf⟩ := nm_of hf
        refine lv_top_as ex44 ?_
        refine lv_istore (lv' := [(5, .int x44), (4, .int x29), (3, .int x5), (2, .int x2), (0, .ref (qa k)), (1, .int p2)]) X.1 X.2.1 dX6_bears_115 hl (by decide) rfl (fun ls hl => ?_)
        refine lv_goto (tgt := 126) X.1 X.2.1 dX6_bears_117 (by decide) ?_
        refine lv_aload_n X.1 X.2.1 dX6_bears_126 rfl (lv_at hl 4 rfl) ?_
        refine lv_bipush (v := 32) X.1 X.2.1 dX6_bears_127 (by decide) ?_
        refine lv_iload_n X.1 X.2.1 dX6_bears_129 rfl (lv_at hl 5 rfl) ?_
        refine lv_iadd X.1 X.2.1 dX6_bears_130 ?_
        obtain ⟨hi45, hf⟩ := gin_of hf
        refine x_iald X hP hG_s (by omega) hi45 dX6_bears_131 ?_
        refine lv_iload_n X.1 X.2.1 dX6_bears_132 rfl (lv_at hl 3 rfl) ?_
        refine lv_icmp_ne (tgt := 143) X.1 X.2.1 dX6_bears_133 (by decide) (fun c46 => ?_) (fun c46 => ?_)
        · have hf := ifn hf c46
          refine lv_iload X.1 X.2.1 dX6_bears_143 (lv_at hl 0 rfl) ?_
          obtain rfl := Option.some.inj hf
          exact hret _ _ _ _ _ _ dX6_bears_145 rfl rfl (rfl) hP hS
        · have hf := ifp hf c46
          refine lv_iload X.1 X.2.1 dX6_bears_136 (lv_at hl 0 rfl) ?_
          refine lv_iconst (v := 2) X.1 X.2.1 dX6_bears_138 (by decide) ?_
          refine lv_idiv X.1 X.2.1 dX6_bears_139 (by decide) ?_
          refine lv_goto (tgt := 145) X.1 X.2.1 dX6_bears_140 (by decide) ?_
          obtain rfl := Option.some.inj hf
          exact hret _ _ _ _ _ _ dX6_bears_145 rfl rfl (rfl) hP hS
      have hf := ifn hf w41
      refine lv_tableOut (tgt := 120) X.1 X.2.1 dX6_bears_49 (by have := i_ne 0 (0) (by decide) w31; have := i_ne 1 (1) (by decide) w34; have := i_ne 2 (2) (by decide) w38; have := i_ne 3 (3) (by decide) w41; omega) (by decide) ?_
      refine lv_iload X.1 X.2.1 dX6_bears_120 (lv_at hl 1 rfl) ?_
      refine lv_iconst (v := 2) X.1 X.2.1 dX6_bears_122 (by decide) ?_
      refine lv_idiv X.1 X.2.1 dX6_bears_123 (by decide) ?_
      obtain ⟨x47, ex47, hf⟩ := nm_of hf
      refine lv_top_as ex47 ?_
      refine lv_istore (lv' := [(5, .int x47), (4, .int x29), (3, .int x5), (2, .int x2), (0, .ref (qa k)), (1, .int p2)]) X.1 X.2.1 dX6_bears_124 hl (by decide) rfl (fun ls hl => ?_)
      refine lv_aload_n X.1 X.2.1 dX6_bears_126 rfl (lv_at hl 4 rfl) ?_
      refine lv_bipush (v := 32) X.1 X.2.1 dX6_bears_127 (by decide) ?_
      refine lv_iload_n X.1 X.2.1 dX6_bears_129 rfl (lv_at hl 5 rfl) ?_
      refine lv_iadd X.1 X.2.1 dX6_bears_130 ?_
      obtain ⟨hi48, hf⟩ := gin_of hf
      refine x_iald X hP hG_s (by omega) hi48 dX6_bears_131 ?_
      refine lv_iload_n X.1 X.2.1 dX6_bears_132 rfl (lv_at hl 3 rfl) ?_
      refine lv_icmp_ne (tgt := 143) X.1 X.2.1 dX6_bears_133 (by decide) (fun c49 => ?_) (fun c49 => ?_)
      · have hf := ifn hf c49
        refine lv_iload X.1 X.2.1 dX6_bears_143 (lv_at hl 0 rfl) ?_
        obtain rfl := Option.some.inj hf
        exact hret _ _ _ _ _ _ dX6_bears_145 rfl rfl (rfl) hP hS
      · have hf := ifp hf c49
        refine lv_iload X.1 X.2.1 dX6_bears_136 (lv_at hl 0 rfl) ?_
        refine lv_iconst (v := 2) X.1 X.2.1 dX6_bears_138 (by decide) ?_
        refine lv_idiv X.1 X.2.1 dX6_bears_139 (by decide) ?_
        refine lv_goto (tgt := 145) X.1 X.2.1 dX6_bears_140 (by decide) ?_
        obtain rfl := Option.some.inj hf
        exact hret _ _ _ _ _ _ dX6_bears_145 rfl rfl (rfl) hP hS
  · have hf := ifp hf c3
    refine lv_iconst (v := 0) X.1 X.2.1 dX6_bears_13 (by decide) ?_
    obtain rfl := Option.some.inj hf
    exact hret _ _ _ _ _ _ dX6_bears_14 rfl rfl (rfl) hP hS
def bX6_load_4 (arr_s : Nat → Int32) (p2 : Int32) (K1 : ((Int32 × Int32)) → Option Int32) : ((Int32 × Int32)) → Option Int32
  | (v2_1, v3_1) => gin 25 191 (if (arr_s (Int32.toNatClampNeg 25)) ≤ v3_1 then (some v2_1) else (gin (13 + v3_1) 191 (if (arr_s (Int32.toNatClampNeg (13 + v3_1))) = p2 then ((fX6_bears v3_1 arr_s).bind (fun r8 => nm (v2_1 + r8) (fun x9 => nm (v3_1 + 1) (fun x10 => K1 (x9, x10))))) else (nm (v2_1 + 0) (fun x6 => nm (v3_1 + 1) (fun x7 => K1 (x6, x7)))))))
def fX6_load (p2 : Int32)  (arr_s : Nat → Int32) : Option Int32 := lp (bX6_load_4 arr_s p2) FU (0, 0)
set_option maxHeartbeats 4000000 in
set_option maxRecDepth 100000 in
theorem ct_X6_load {l : Launch} {D : va_G} {g : Nat → ClassId} {qa : Nat → Nat} {E0 : Nat → va_E} {k : Nat} {p2 : Int32} {arr_s : Nat → Int32} (hb_s : k < 74) (hG_s : E0 k = .inl (g 0, 191, .inl arr_s)) {R : Int32} (hf : fX6_load p2 arr_s = some R) : MI l yX6_load wsX6_load 2 D g qa E0 [.ref (qa k), .int p2] R (fun E => E = E0) := by
  refine MI.mk (by decide) rfl (Nat.le_of_ble_eq_true rfl) ?_
  intro p e s m args below meth c ls Q X hret hP hS hl
  have hl : lv_has ls 4 [(0, .ref (qa k)), (1, .int p2)] := hl
  rw [fX6_load] at hf
  refine lv_iconst (v := 0) X.1 X.2.1 dX6_load_0 (by decide) ?_
  refine lv_istore_n (lv' := [(2, .int 0), (0, .ref (qa k)), (1, .int p2)]) X.1 X.2.1 dX6_load_1 rfl hl (by decide) rfl (fun ls hl => ?_)
  refine lv_iconst (v := 0) X.1 X.2.1 dX6_load_2 (by decide) ?_
  refine lv_istore_n (lv' := [(3, .int 0), (2, .int 0), (0, .ref (qa k)), (1, .int p2)]) X.1 X.2.1 dX6_load_3 rfl hl (by decide) rfl (fun ls hl => ?_)
  have lp1 : ∀ (n1 : Nat) (v2_1 : Int32) (v3_1 : Int32) (H : Heap) (locs : List Loc) (ls : Array Slot), lp (bX6_load_4 arr_s p2) n1 (v2_1, v3_1) = some R → va_P D vwCl (WD qa E0) H → va_S (gA qa s.heap.size) s.heap H locs → lv_has ls 4 [(0, .ref (qa k)), (1, .int p2), (2, .int v2_1), (3, .int v3_1)] → W p l e (rmf 2) s m args below meth c H locs 0 0 Q (F0 m 4 ls []) := by
    intro n1
    induction n1 with
    | zero =>
      intro v2_1 v3_1 H locs ls hf
      exact absurd hf (by intro h; cases h)
    | succ n1 ih1 =>
      intro v2_1 v3_1 H locs ls hf hP hS hl
      have hf : bX6_load_4 arr_s p2 (lp (bX6_load_4 arr_s p2) n1) (v2_1, v3_1) = some R := hf
      rw [bX6_load_4] at hf
      refine lv_iload_n X.1 X.2.1 dX6_load_4 rfl (lv_at hl 3 rfl) ?_
      refine lv_aload_n X.1 X.2.1 dX6_load_5 rfl (lv_at hl 0 rfl) ?_
      refine lv_bipush (v := 25) X.1 X.2.1 dX6_load_6 (by decide) ?_
      obtain ⟨hi2, hf⟩ := gin_of hf
      refine x_iald X hP hG_s (by omega) hi2 dX6_load_8 ?_
      refine lv_icmp_ge (tgt := 40) X.1 X.2.1 dX6_load_9 (by decide) (fun c3 => ?_) (fun c3 => ?_)
      · have hf := ifp hf c3
        refine lv_iload_n X.1 X.2.1 dX6_load_40 rfl (lv_at hl 2 rfl) ?_
        obtain rfl := Option.some.inj hf
        exact hret _ _ _ _ _ _ dX6_load_41 rfl rfl (rfl) hP hS
      · have hf := ifn hf c3
        refine lv_iload_n X.1 X.2.1 dX6_load_12 rfl (lv_at hl 2 rfl) ?_
        refine lv_aload_n X.1 X.2.1 dX6_load_13 rfl (lv_at hl 0 rfl) ?_
        refine lv_bipush (v := 13) X.1 X.2.1 dX6_load_14 (by decide) ?_
        refine lv_iload_n X.1 X.2.1 dX6_load_16 rfl (lv_at hl 3 rfl) ?_
        refine lv_iadd X.1 X.2.1 dX6_load_17 ?_
        obtain ⟨hi4, hf⟩ := gin_of hf
        refine x_iald X hP hG_s (by omega) hi4 dX6_load_18 ?_
        refine lv_iload_n X.1 X.2.1 dX6_load_19 rfl (lv_at hl 1 rfl) ?_
        refine lv_icmp_ne (tgt := 31) X.1 X.2.1 dX6_load_20 (by decide) (fun c5 => ?_) (fun c5 => ?_)
        · have hf := ifn hf c5
          refine lv_iconst (v := 0) X.1 X.2.1 dX6_load_31 (by decide) ?_
          refine lv_iadd X.1 X.2.1 dX6_load_32 ?_
          obtain ⟨x6, ex6, hf⟩ := nm_of hf
          refine lv_top_as ex6 ?_
          refine lv_istore_n (lv' := [(2, .int x6), (0, .ref (qa k)), (1, .int p2), (3, .int v3_1)]) X.1 X.2.1 dX6_load_33 rfl hl (by decide) rfl (fun ls hl => ?_)
          obtain ⟨x7, ex7, hf⟩ := nm_of hf
          refine lv_iinc (v := x7) (lv' := [(3, .int x7), (2, .int x6), (0, .ref (qa k)), (1, .int p2)]) X.1 X.2.1 dX6_load_34 hl (k := 3) rfl (by rw [ex7]; rfl) (by decide) rfl (fun ls hl => ?_)
          refine lv_goto (tgt := 4) X.1 X.2.1 dX6_load_37 (by decide) ?_
          exact ih1 x6 x7 _ _ _ hf hP hS (lv_sub hl [2, 3, 1, 0] rfl)
        · have hf := ifp hf c5
          refine lv_aload_n X.1 X.2.1 dX6_load_23 rfl (lv_at hl 0 rfl) ?_
          refine lv_iload_n X.1 X.2.1 dX6_load_24 rfl (lv_at hl 3 rfl) ?_
          obtain ⟨r8, hr8, hf⟩ := bd_of hf
          refine x_rdSi X hP hS (index := 61) (n := 2) (As := [.ref (qa k), .int v3_1]) (ct_X6_bears (by omega) hG_s hr8) ggX6_load_X6_bears (by decide +kernel) (by decide +kernel) (by decide +kernel) rfl (by decide +kernel) ⟨by decide, by decide⟩ rfl hl.1 rfl (Nat.le_of_ble_eq_true rfl) dX6_load_25 (fun H locs hP hS => ?_)
          refine lv_goto (tgt := 32) X.1 X.2.1 dX6_load_28 (by decide) ?_
          refine lv_iadd X.1 X.2.1 dX6_load_32 ?_
          obtain ⟨x9, ex9, hf⟩ := nm_of hf
          refine lv_top_as ex9 ?_
          refine lv_istore_n (lv' := [(2, .int x9), (0, .ref (qa k)), (1, .int p2), (3, .int v3_1)]) X.1 X.2.1 dX6_load_33 rfl hl (by decide) rfl (fun ls hl => ?_)
          obtain ⟨x10, ex10, hf⟩ := nm_of hf
          refine lv_iinc (v := x10) (lv' := [(3, .int x10), (2, .int x9), (0, .ref (qa k)), (1, .int p2)]) X.1 X.2.1 dX6_load_34 hl (k := 3) rfl (by rw [ex10]; rfl) (by decide) rfl (fun ls hl => ?_)
          refine lv_goto (tgt := 4) X.1 X.2.1 dX6_load_37 (by decide) ?_
          exact ih1 x9 x10 _ _ _ hf hP hS (lv_sub hl [2, 3, 1, 0] rfl)
  exact lp1 FU 0 0 _ _ _ hf hP hS (lv_sub hl [2, 3, 1, 0] rfl)
def fX6_isBent (p2 : Int32)  (arr_s : Nat → Int32) : Option Int32 := (fX6_load p2 arr_s).bind (fun r1 => gin (2 + p2) 191 (if r1 ≤ (arr_s (Int32.toNatClampNeg (2 + p2))) then (some 0) else (some 1)))
set_option maxHeartbeats 4000000 in
set_option maxRecDepth 100000 in
theorem ct_X6_isBent {l : Launch} {D : va_G} {g : Nat → ClassId} {qa : Nat → Nat} {E0 : Nat → va_E} {k : Nat} {p2 : Int32} {arr_s : Nat → Int32} (hb_s : k < 74) (hG_s : E0 k = .inl (g 0, 191, .inl arr_s)) {R : Int32} (hf : fX6_isBent p2 arr_s = some R) : MI l yX6_isBent wsX6_isBent 3 D g qa E0 [.ref (qa k), .int p2] R (fun E => E = E0) := by
  refine MI.mk (by decide) rfl (Nat.le_of_ble_eq_true rfl) ?_
  intro p e s m args below meth c ls Q X hret hP hS hl
  have hl : lv_has ls 2 [(0, .ref (qa k)), (1, .int p2)] := hl
  rw [fX6_isBent] at hf
  refine lv_aload_n X.1 X.2.1 dX6_isBent_0 rfl (lv_at hl 0 rfl) ?_
  refine lv_iload_n X.1 X.2.1 dX6_isBent_1 rfl (lv_at hl 1 rfl) ?_
  obtain ⟨r1, hr1, hf⟩ := bd_of hf
  refine x_rdSi X hP hS (index := 64) (n := 2) (As := [.ref (qa k), .int p2]) (ct_X6_load (by omega) hG_s hr1) ggX6_isBent_X6_load (by decide +kernel) (by decide +kernel) (by decide +kernel) rfl (by decide +kernel) ⟨by decide, by decide⟩ rfl hl.1 rfl (Nat.le_of_ble_eq_true rfl) dX6_isBent_2 (fun H locs hP hS => ?_)
  refine lv_aload_n X.1 X.2.1 dX6_isBent_5 rfl (lv_at hl 0 rfl) ?_
  refine lv_iconst (v := 2) X.1 X.2.1 dX6_isBent_6 (by decide) ?_
  refine lv_iload_n X.1 X.2.1 dX6_isBent_7 rfl (lv_at hl 1 rfl) ?_
  refine lv_iadd X.1 X.2.1 dX6_isBent_8 ?_
  obtain ⟨hi2, hf⟩ := gin_of hf
  refine x_iald X hP hG_s (by omega) hi2 dX6_isBent_9 ?_
  refine lv_icmp_le (tgt := 17) X.1 X.2.1 dX6_isBent_10 (by decide) (fun c3 => ?_) (fun c3 => ?_)
  · have hf := ifp hf c3
    refine lv_iconst (v := 0) X.1 X.2.1 dX6_isBent_17 (by decide) ?_
    obtain rfl := Option.some.inj hf
    exact hret _ _ _ _ _ _ dX6_isBent_18 rfl rfl (rfl) hP hS
  · have hf := ifn hf c3
    refine lv_iconst (v := 1) X.1 X.2.1 dX6_isBent_13 (by decide) ?_
    refine lv_goto (tgt := 18) X.1 X.2.1 dX6_isBent_14 (by decide) ?_
    obtain rfl := Option.some.inj hf
    exact hret _ _ _ _ _ _ dX6_isBent_18 rfl rfl (rfl) hP hS
def bX6_bentOnes_4 (arr_s : Nat → Int32) (K1 : ((Int32 × Int32)) → Option Int32) : ((Int32 × Int32)) → Option Int32
  | (v1_1, v2_1) => gin 19 191 (if (arr_s (Int32.toNatClampNeg 19)) ≤ v2_1 then (some v1_1) else ((fX6_isBent v2_1 arr_s).bind (fun r4 => if r4 = 0 then (nm (v1_1 ||| 0) (fun x6 => nm (v2_1 + 1) (fun x7 => K1 (x6, x7)))) else (nm (v1_1 ||| (1 <<< (v2_1 &&& 31))) (fun x8 => nm (v2_1 + 1) (fun x9 => K1 (x8, x9)))))))
def fX6_bentOnes   (arr_s : Nat → Int32) : Option Int32 := lp (bX6_bentOnes_4 arr_s) FU (0, 0)
set_option maxHeartbeats 4000000 in
set_option maxRecDepth 100000 in
theorem ct_X6_bentOnes {l : Launch} {D : va_G} {g : Nat → ClassId} {qa : Nat → Nat} {E0 : Nat → va_E} {k : Nat} {arr_s : Nat → Int32} (hb_s : k < 74) (hG_s : E0 k = .inl (g 0, 191, .inl arr_s)) {R : Int32} (hf : fX6_bentOnes arr_s = some R) : MI l yX6_bentOnes wsX6_bentOnes 4 D g qa E0 [.ref (qa k)] R (fun E => E = E0) := by
  refine MI.mk (by decide) rfl (Nat.le_of_ble_eq_true rfl) ?_
  intro p e s m args below meth c ls Q X hret hP hS hl
  have hl : lv_has ls 3 [(0, .ref (qa k))] := hl
  rw [fX6_bentOnes] at hf
  refine lv_iconst (v := 0) X.1 X.2.1 dX6_bentOnes_0 (by decide) ?_
  refine lv_istore_n (lv' := [(1, .int 0), (0, .ref (qa k))]) X.1 X.2.1 dX6_bentOnes_1 rfl hl (by decide) rfl (fun ls hl => ?_)
  refine lv_iconst (v := 0) X.1 X.2.1 dX6_bentOnes_2 (by decide) ?_
  refine lv_istore_n (lv' := [(2, .int 0), (1, .int 0), (0, .ref (qa k))]) X.1 X.2.1 dX6_bentOnes_3 rfl hl (by decide) rfl (fun ls hl => ?_)
  have lp1 : ∀ (n1 : Nat) (v1_1 : Int32) (v2_1 : Int32) (H : Heap) (locs : List Loc) (ls : Array Slot), lp (bX6_bentOnes_4 arr_s) n1 (v1_1, v2_1) = some R → va_P D vwCl (WD qa E0) H → va_S (gA qa s.heap.size) s.heap H locs → lv_has ls 3 [(0, .ref (qa k)), (1, .int v1_1), (2, .int v2_1)] → W p l e (rmf 4) s m args below meth c H locs 0 0 Q (F0 m 4 ls []) := by
    intro n1
    induction n1 with
    | zero =>
      intro v1_1 v2_1 H locs ls hf
      exact absurd hf (by intro h; cases h)
    | succ n1 ih1 =>
      intro v1_1 v2_1 H locs ls hf hP hS hl
      have hf : bX6_bentOnes_4 arr_s (lp (bX6_bentOnes_4 arr_s) n1) (v1_1, v2_1) = some R := hf
      rw [bX6_bentOnes_4] at hf
      refine lv_iload_n X.1 X.2.1 dX6_bentOnes_4 rfl (lv_at hl 2 rfl) ?_
      refine lv_aload_n X.1 X.2.1 dX6_bentOnes_5 rfl (lv_at hl 0 rfl) ?_
      refine lv_bipush (v := 19) X.1 X.2.1 dX6_bentOnes_6 (by decide) ?_
      obtain ⟨hi2, hf⟩ := gin_of hf
      refine x_iald X hP hG_s (by omega) hi2 dX6_bentOnes_8 ?_
      refine lv_icmp_ge (tgt := 36) X.1 X.2.1 dX6_bentOnes_9 (by decide) (fun c3 => ?_) (fun c3 => ?_)
      · have hf := ifp hf c3
        refine lv_iload_n X.1 X.2.1 dX6_bentOnes_36 rfl (lv_at hl 1 rfl) ?_
        obtain rfl := Option.some.inj hf
        exact hret _ _ _ _ _ _ dX6_bentOnes_37 rfl rfl (rfl) hP hS
      · have hf := ifn hf c3
        refine lv_iload_n X.1 X.2.1 dX6_bentOnes_12 rfl (lv_at hl 1 rfl) ?_
        refine lv_aload_n X.1 X.2.1 dX6_bentOnes_13 rfl (lv_at hl 0 rfl) ?_
        refine lv_iload_n X.1 X.2.1 dX6_bentOnes_14 rfl (lv_at hl 2 rfl) ?_
        obtain ⟨r4, hr4, hf⟩ := bd_of hf
        refine x_rdSi X hP hS (index := 67) (n := 2) (As := [.ref (qa k), .int v2_1]) (ct_X6_isBent (by omega) hG_s hr4) ggX6_bentOnes_X6_isBent (by decide +kernel) (by decide +kernel) (by decide +kernel) rfl (by decide +kernel) ⟨by decide, by decide⟩ rfl hl.1 rfl (Nat.le_of_ble_eq_true rfl) dX6_bentOnes_15 (fun H locs hP hS => ?_)
        refine lv_if_eq (tgt := 27) X.1 X.2.1 dX6_bentOnes_18 (by decide) (fun c5 => ?_) (fun c5 => ?_)
        · have hf := ifp hf c5
          refine lv_iconst (v := 0) X.1 X.2.1 dX6_bentOnes_27 (by decide) ?_
          refine lv_ior X.1 X.2.1 dX6_bentOnes_28 ?_
          obtain ⟨x6, ex6, hf⟩ := nm_of hf
          refine lv_top_as ex6 ?_
          refine lv_istore_n (lv' := [(1, .int x6), (0, .ref (qa k)), (2, .int v2_1)]) X.1 X.2.1 dX6_bentOnes_29 rfl hl (by decide) rfl (fun ls hl => ?_)
          obtain ⟨x7, ex7, hf⟩ := nm_of hf
          refine lv_iinc (v := x7) (lv' := [(2, .int x7), (1, .int x6), (0, .ref (qa k))]) X.1 X.2.1 dX6_bentOnes_30 hl (k := 2) rfl (by rw [ex7]; rfl) (by decide) rfl (fun ls hl => ?_)
          refine lv_goto (tgt := 4) X.1 X.2.1 dX6_bentOnes_33 (by decide) ?_
          exact ih1 x6 x7 _ _ _ hf hP hS (lv_sub hl [2, 1, 0] rfl)
        · have hf := ifn hf c5
          refine lv_iconst (v := 1) X.1 X.2.1 dX6_bentOnes_21 (by decide) ?_
          refine lv_iload_n X.1 X.2.1 dX6_bentOnes_22 rfl (lv_at hl 2 rfl) ?_
          refine lv_ishl X.1 X.2.1 dX6_bentOnes_23 ?_
          refine lv_goto (tgt := 28) X.1 X.2.1 dX6_bentOnes_24 (by decide) ?_
          refine lv_ior X.1 X.2.1 dX6_bentOnes_28 ?_
          obtain ⟨x8, ex8, hf⟩ := nm_of hf
          refine lv_top_as ex8 ?_
          refine lv_istore_n (lv' := [(1, .int x8), (0, .ref (qa k)), (2, .int v2_1)]) X.1 X.2.1 dX6_bentOnes_29 rfl hl (by decide) rfl (fun ls hl => ?_)
          obtain ⟨x9, ex9, hf⟩ := nm_of hf
          refine lv_iinc (v := x9) (lv' := [(2, .int x9), (1, .int x8), (0, .ref (qa k))]) X.1 X.2.1 dX6_bentOnes_30 hl (k := 2) rfl (by rw [ex9]; rfl) (by decide) rfl (fun ls hl => ?_)
          refine lv_goto (tgt := 4) X.1 X.2.1 dX6_bentOnes_33 (by decide) ?_
          exact ih1 x8 x9 _ _ _ hf hP hS (lv_sub hl [2, 1, 0] rfl)
  exact lp1 FU 0 0 _ _ _ hf hP hS (lv_sub hl [2, 1, 0] rfl)
def bX6_dayIn_7 (r1 : Int32) (K2 : ((Int32 × (Nat → Int32))) → Option ((Nat → Int32))) : ((Int32 × (Nat → Int32))) → Option ((Nat → Int32))
  | (v2_2, arr_s_2) => gin 19 191 (if (arr_s_2 (Int32.toNatClampNeg 19)) ≤ v2_2 then (gin 0 191 (gin 0 191 (some (upd arr_s_2 (Int32.toNatClampNeg 0) ((arr_s_2 (Int32.toNatClampNeg 0)) + 1))))) else (gin (2 + v2_2) 191 (if ((r1 >>> (v2_2 &&& 31)) &&& 1) = 1 then (nm ((arr_s_2 (Int32.toNatClampNeg (2 + v2_2))) + (-1)) (fun x20 => if 0 ≤ x20 then (gin (20 + v2_2) 191 (if x20 ≤ (arr_s_2 (Int32.toNatClampNeg (20 + v2_2))) then (gin (2 + v2_2) 191 (nm (v2_2 + 1) (fun x25 => K2 (x25, upd arr_s_2 (Int32.toNatClampNeg (2 + v2_2)) x20)))) else (gin (20 + v2_2) 191 (gin (2 + v2_2) 191 (nm (v2_2 + 1) (fun x28 => K2 (x28, upd arr_s_2 (Int32.toNatClampNeg (2 + v2_2)) (arr_s_2 (Int32.toNatClampNeg (20 + v2_2)))))))))) else (gin (2 + v2_2) 191 (nm (v2_2 + 1) (fun x30 => K2 (x30, upd arr_s_2 (Int32.toNatClampNeg (2 + v2_2)) 0)))))) else (nm ((arr_s_2 (Int32.toNatClampNeg (2 + v2_2))) + 1) (fun x9 => if 0 ≤ x9 then (gin (20 + v2_2) 191 (if x9 ≤ (arr_s_2 (Int32.toNatClampNeg (20 + v2_2))) then (gin (2 + v2_2) 191 (nm (v2_2 + 1) (fun x14 => K2 (x14, upd arr_s_2 (Int32.toNatClampNeg (2 + v2_2)) x9)))) else (gin (20 + v2_2) 191 (gin (2 + v2_2) 191 (nm (v2_2 + 1) (fun x17 => K2 (x17, upd arr_s_2 (Int32.toNatClampNeg (2 + v2_2)) (arr_s_2 (Int32.toNatClampNeg (20 + v2_2)))))))))) else (gin (2 + v2_2) 191 (nm (v2_2 + 1) (fun x19 => K2 (x19, upd arr_s_2 (Int32.toNatClampNeg (2 + v2_2)) 0)))))))))
def fX6_dayIn   (arr_s : Nat → Int32) : Option ((Nat → Int32)) := (fX6_bentOnes arr_s).bind (fun r1 => lp (bX6_dayIn_7 r1) FU (0, arr_s))
set_option maxHeartbeats 4000000 in
set_option maxRecDepth 100000 in
theorem ct_X6_dayIn {l : Launch} {D : va_G} {g : Nat → ClassId} {qa : Nat → Nat} {E0 : Nat → va_E} {k : Nat} {arr_s : Nat → Int32} (hb_s : k < 74) (hG_s : E0 k = .inl (g 0, 191, .inl arr_s)) {R : ((Nat → Int32))} (hf : fX6_dayIn arr_s = some R) : MV l yX6_dayIn wsX6_dayIn 5 D g qa E0 [.ref (qa k)] (fun E => E k = .inl (g 0, 191, .inl R) ∧ ∀ j, j ≠ k → E j = E0 j) := by
  refine MV.mk (by decide) rfl (Nat.le_of_ble_eq_true rfl) ?_
  intro p e s m args below meth c ls Q X hret hP hS hl
  have hl : lv_has ls 4 [(0, .ref (qa k))] := hl
  have hfr : ∀ j, j ≠ k → E0 j = E0 j := fun _ _ => rfl
  rw [fX6_dayIn] at hf
  refine lv_aload_n X.1 X.2.1 dX6_dayIn_0 rfl (lv_at hl 0 rfl) ?_
  obtain ⟨r1, hr1, hf⟩ := bd_of hf
  refine x_rdSi X hP hS (index := 118) (n := 1) (As := [.ref (qa k)]) (ct_X6_bentOnes (by omega) hG_s hr1) ggX6_dayIn_X6_bentOnes (by decide +kernel) (by decide +kernel) (by decide +kernel) rfl (by decide +kernel) ⟨by decide, by decide⟩ rfl hl.1 rfl (Nat.le_of_ble_eq_true rfl) dX6_dayIn_1 (fun H locs hP hS => ?_)
  refine lv_istore_n (lv' := [(1, .int r1), (0, .ref (qa k))]) X.1 X.2.1 dX6_dayIn_4 rfl hl (by decide) rfl (fun ls hl => ?_)
  refine lv_iconst (v := 0) X.1 X.2.1 dX6_dayIn_5 (by decide) ?_
  refine lv_istore_n (lv' := [(2, .int 0), (1, .int r1), (0, .ref (qa k))]) X.1 X.2.1 dX6_dayIn_6 rfl hl (by decide) rfl (fun ls hl => ?_)
  have lp2 : ∀ (n2 : Nat) (v2_2 : Int32) (arr_s_2 : Nat → Int32) (E : Nat → va_E) (H : Heap) (locs : List Loc) (ls : Array Slot), lp (bX6_dayIn_7 r1) n2 (v2_2, arr_s_2) = some R → va_P D vwCl (WD qa E) H → va_S (gA qa s.heap.size) s.heap H locs → E k = .inl (g 0, 191, .inl arr_s_2) → (∀ j, j ≠ k → E j = E0 j) → lv_has ls 4 [(0, .ref (qa k)), (1, .int r1), (2, .int v2_2)] → W p l e (rmf 5) s m args below meth c H locs 0 0 Q (F0 m 7 ls []) := by
    intro n2
    induction n2 with
    | zero =>
      intro v2_2 arr_s_2 E H locs ls hf
      exact absurd hf (by intro h; cases h)
    | succ n2 ih2 =>
      intro v2_2 arr_s_2 E H locs ls hf hP hS hG_s hfr hl
      have hf : bX6_dayIn_7 r1 (lp (bX6_dayIn_7 r1) n2) (v2_2, arr_s_2) = some R := hf
      rw [bX6_dayIn_7] at hf
      refine lv_iload_n X.1 X.2.1 dX6_dayIn_7 rfl (lv_at hl 2 rfl) ?_
      refine lv_aload_n X.1 X.2.1 dX6_dayIn_8 rfl (lv_at hl 0 rfl) ?_
      refine lv_bipush (v := 19) X.1 X.2.1 dX6_dayIn_9 (by decide) ?_
      obtain ⟨hi3, hf⟩ := gin_of hf
      refine x_iald X hP hG_s (by omega) hi3 dX6_dayIn_11 ?_
      refine lv_icmp_ge (tgt := 75) X.1 X.2.1 dX6_dayIn_12 (by decide) (fun c4 => ?_) (fun c4 => ?_)
      · have hf := ifp hf c4
        refine lv_aload_n X.1 X.2.1 dX6_dayIn_75 rfl (lv_at hl 0 rfl) ?_
        refine lv_iconst (v := 0) X.1 X.2.1 dX6_dayIn_76 (by decide) ?_
        refine lv_dup2_11 X.1 X.2.1 dX6_dayIn_77 rfl rfl ?_
        obtain ⟨hi5, hf⟩ := gin_of hf
        refine x_iald X hP hG_s (by omega) hi5 dX6_dayIn_78 ?_
        refine lv_iconst (v := 1) X.1 X.2.1 dX6_dayIn_79 (by decide) ?_
        refine lv_iadd X.1 X.2.1 dX6_dayIn_80 ?_
        obtain ⟨hi6, hf⟩ := gin_of hf
        refine x_iast X hP hS hG_s (by omega) hi6 dX6_dayIn_81 (fun E H locs h1 hk hP hS => ?_)
        have hG_s := h1
        have hfr : ∀ j, j ≠ k → E j = E0 j := fun j o0 => (hk j (by omega)).trans (hfr j o0)
        obtain rfl := Option.some.inj hf
        exact hret _ _ _ _ _ dX6_dayIn_82 (⟨hG_s, hfr⟩) hP hS
      · have hf := ifn hf c4
        refine lv_aload_n X.1 X.2.1 dX6_dayIn_15 rfl (lv_at hl 0 rfl) ?_
        refine lv_iconst (v := 2) X.1 X.2.1 dX6_dayIn_16 (by decide) ?_
        refine lv_iload_n X.1 X.2.1 dX6_dayIn_17 rfl (lv_at hl 2 rfl) ?_
        refine lv_iadd X.1 X.2.1 dX6_dayIn_18 ?_
        obtain ⟨hi7, hf⟩ := gin_of hf
        refine x_iald X hP hG_s (by omega) hi7 dX6_dayIn_19 ?_
        refine lv_iload_n X.1 X.2.1 dX6_dayIn_20 rfl (lv_at hl 1 rfl) ?_
        refine lv_iload_n X.1 X.2.1 dX6_dayIn_21 rfl (lv_at hl 2 rfl) ?_
        refine lv_ishr X.1 X.2.1 dX6_dayIn_22 ?_
        refine lv_iconst (v := 1) X.1 X.2.1 dX6_dayIn_23 (by decide) ?_
        refine lv_iand X.1 X.2.1 dX6_dayIn_24 ?_
        refine lv_iconst (v := 1) X.1 X.2.1 dX6_dayIn_25 (by decide) ?_
        refine lv_icmp_ne (tgt := 33) X.1 X.2.1 dX6_dayIn_26 (by decide) (fun c8 => ?_) (fun c8 => ?_)
        · have hf := ifn hf c8
          refine lv_iconst (v := 1) X.1 X.2.1 dX6_dayIn_33 (by decide) ?_
          refine lv_iadd X.1 X.2.1 dX6_dayIn_34 ?_
          obtain ⟨x9, ex9, hf⟩ := nm_of hf
          refine lv_top_as ex9 ?_
          refine lv_istore_n (lv' := [(3, .int x9), (0, .ref (qa k)), (1, .int r1), (2, .int v2_2)]) X.1 X.2.1 dX6_dayIn_35 rfl hl (by decide) rfl (fun ls hl => ?_)
          refine lv_aload_n X.1 X.2.1 dX6_dayIn_36 rfl (lv_at hl 1 rfl) ?_
          refine lv_iconst (v := 2) X.1 X.2.1 dX6_dayIn_37 (by decide) ?_
          refine lv_iload_n X.1 X.2.1 dX6_dayIn_38 rfl (lv_at hl 3 rfl) ?_
          refine lv_iadd X.1 X.2.1 dX6_dayIn_39 ?_
          refine lv_iload_n X.1 X.2.1 dX6_dayIn_40 rfl (lv_at hl 0 rfl) ?_
          refine lv_if_ge (tgt := 48) X.1 X.2.1 dX6_dayIn_41 (by decide) (fun c10 => ?_) (fun c10 => ?_)
          · have hf := ifp hf c10
            refine lv_iload_n X.1 X.2.1 dX6_dayIn_48 rfl (lv_at hl 0 rfl) ?_
            refine lv_aload_n X.1 X.2.1 dX6_dayIn_49 rfl (lv_at hl 1 rfl) ?_
            refine lv_bipush (v := 20) X.1 X.2.1 dX6_dayIn_50 (by decide) ?_
            refine lv_iload_n X.1 X.2.1 dX6_dayIn_52 rfl (lv_at hl 3 rfl) ?_
            refine lv_iadd X.1 X.2.1 dX6_dayIn_53 ?_
            obtain ⟨hi11, hf⟩ := gin_of hf
            refine x_iald X hP hG_s (by omega) hi11 dX6_dayIn_54 ?_
            refine lv_icmp_le (tgt := 67) X.1 X.2.1 dX6_dayIn_55 (by decide) (fun c12 => ?_) (fun c12 => ?_)
            · have hf := ifp hf c12
              refine lv_iload_n X.1 X.2.1 dX6_dayIn_67 rfl (lv_at hl 0 rfl) ?_
              obtain ⟨hi13, hf⟩ := gin_of hf
              refine x_iast X hP hS hG_s (by omega) hi13 dX6_dayIn_68 (fun E H locs h1 hk hP hS => ?_)
              have hG_s := h1
              have hfr : ∀ j, j ≠ k → E j = E0 j := fun j o0 => (hk j (by omega)).trans (hfr j o0)
              obtain ⟨x14, ex14, hf⟩ := nm_of hf
              refine lv_iinc (v := x14) (lv' := [(2, .int x14), (3, .int x9), (0, .ref (qa k)), (1, .int r1)]) X.1 X.2.1 dX6_dayIn_69 hl (k := 3) rfl (by rw [ex14]; rfl) (by decide) rfl (fun ls hl => ?_)
              refine lv_goto (tgt := 7) X.1 X.2.1 dX6_dayIn_72 (by decide) ?_
              exact ih2 x14 (upd arr_s_2 (Int32.toNatClampNeg (2 + v2_2)) x9) _ _ _ _ hf hP hS hG_s hfr (lv_sub hl [2, 3, 0] rfl)
            · have hf := ifn hf c12
              refine lv_aload_n X.1 X.2.1 dX6_dayIn_58 rfl (lv_at hl 1 rfl) ?_
              refine lv_bipush (v := 20) X.1 X.2.1 dX6_dayIn_59 (by decide) ?_
              refine lv_iload_n X.1 X.2.1 dX6_dayIn_61 rfl (lv_at hl 3 rfl) ?_
              refine lv_iadd X.1 X.2.1 dX6_dayIn_62 ?_
              obtain ⟨hi15, hf⟩ := gin_of hf
              refine x_iald X hP hG_s (by omega) hi15 dX6_dayIn_63 ?_
              refine lv_goto (tgt := 68) X.1 X.2.1 dX6_dayIn_64 (by decide) ?_
              obtain ⟨hi16, hf⟩ := gin_of hf
              refine x_iast X hP hS hG_s (by omega) hi16 dX6_dayIn_68 (fun E H locs h1 hk hP hS => ?_)
              have hG_s := h1
              have hfr : ∀ j, j ≠ k → E j = E0 j := fun j o0 => (hk j (by omega)).trans (hfr j o0)
              obtain ⟨x17, ex17, hf⟩ := nm_of hf
              refine lv_iinc (v := x17) (lv' := [(2, .int x17), (3, .int x9), (0, .ref (qa k)), (1, .int r1)]) X.1 X.2.1 dX6_dayIn_69 hl (k := 3) rfl (by rw [ex17]; rfl) (by decide) rfl (fun ls hl => ?_)
              refine lv_goto (tgt := 7) X.1 X.2.1 dX6_dayIn_72 (by decide) ?_
              exact ih2 x17 (upd arr_s_2 (Int32.toNatClampNeg (2 + v2_2)) (arr_s_2 (Int32.toNatClampNeg (20 + v2_2)))) _ _ _ _ hf hP hS hG_s hfr (lv_sub hl [2, 3, 0] rfl)
          · have hf := ifn hf c10
            refine lv_iconst (v := 0) X.1 X.2.1 dX6_dayIn_44 (by decide) ?_
            refine lv_goto (tgt := 68) X.1 X.2.1 dX6_dayIn_45 (by decide) ?_
            obtain ⟨hi18, hf⟩ := gin_of hf
            refine x_iast X hP hS hG_s (by omega) hi18 dX6_dayIn_68 (fun E H locs h1 hk hP hS => ?_)
            have hG_s := h1
            have hfr : ∀ j, j ≠ k → E j = E0 j := fun j o0 => (hk j (by omega)).trans (hfr j o0)
            obtain ⟨x19, ex19, hf⟩ := nm_of hf
            refine lv_iinc (v := x19) (lv' := [(2, .int x19), (3, .int x9), (0, .ref (qa k)), (1, .int r1)]) X.1 X.2.1 dX6_dayIn_69 hl (k := 3) rfl (by rw [ex19]; rfl) (by decide) rfl (fun ls hl => ?_)
            refine lv_goto (tgt := 7) X.1 X.2.1 dX6_dayIn_72 (by decide) ?_
            exact ih2 x19 (upd arr_s_2 (Int32.toNatClampNeg (2 + v2_2)) 0) _ _ _ _ hf hP hS hG_s hfr (lv_sub hl [2, 3, 0] rfl)
        · have hf := ifp hf c8
          refine lv_iconst (v := (-1)) X.1 X.2.1 dX6_dayIn_29 (by decide) ?_
          refine lv_goto (tgt := 34) X.1 X.2.1 dX6_dayIn_30 (by decide) ?_
          refine lv_iadd X.1 X.2.1 dX6_dayIn_34 ?_
          obtain ⟨x20, ex20, hf⟩ := nm_of hf
          refine lv_top_as ex20 ?_
          refine lv_istore_n (lv' := [(3, .int x20), (0, .ref (qa k)), (1, .int r1), (2, .int v2_2)]) X.1 X.2.1 dX6_dayIn_35 rfl hl (by decide) rfl (fun ls hl => ?_)
          refine lv_aload_n X.1 X.2.1 dX6_dayIn_36 rfl (lv_at hl 1 rfl) ?_
          refine lv_iconst (v := 2) X.1 X.2.1 dX6_dayIn_37 (by decide) ?_
          refine lv_iload_n X.1 X.2.1 dX6_dayIn_38 rfl (lv_at hl 3 rfl) ?_
          refine lv_iadd X.1 X.2.1 dX6_dayIn_39 ?_
          refine lv_iload_n X.1 X.2.1 dX6_dayIn_40 rfl (lv_at hl 0 rfl) ?_
          refine lv_if_ge (tgt := 48) X.1 X.2.1 dX6_dayIn_41 (by decide) (fun c21 => ?_) (fun c21 => ?_)
          · have hf := ifp hf c21
            refine lv_iload_n X.1 X.2.1 dX6_dayIn_48 rfl (lv_at hl 0 rfl) ?_
            refine lv_aload_n X.1 X.2.1 dX6_dayIn_49 rfl (lv_at hl 1 rfl) ?_
            refine lv_bipush (v := 20) X.1 X.2.1 dX6_dayIn_50 (by decide) ?_
            refine lv_iload_n X.1 X.2.1 dX6_dayIn_52 rfl (lv_at hl 3 rfl) ?_
            refine lv_iadd X.1 X.2.1 dX6_dayIn_53 ?_
            obtain ⟨hi22, hf⟩ := gin_of hf
            refine x_iald X hP hG_s (by omega) hi22 dX6_dayIn_54 ?_
            refine lv_icmp_le (tgt := 67) X.1 X.2.1 dX6_dayIn_55 (by decide) (fun c23 => ?_) (fun c23 => ?_)
            · have hf := ifp hf c23
              refine lv_iload_n X.1 X.2.1 dX6_dayIn_67 rfl (lv_at hl 0 rfl) ?_
              obtain ⟨hi24, hf⟩ := gin_of hf
              refine x_iast X hP hS hG_s (by omega) hi24 dX6_dayIn_68 (fun E H locs h1 hk hP hS => ?_)
              have hG_s := h1
              have hfr : ∀ j, j ≠ k → E j = E0 j := fun j o0 => (hk j (by omega)).trans (hfr j o0)
              obtain ⟨x25, ex25, hf⟩ := nm_of hf
              refine lv_iinc (v := x25) (lv' := [(2, .int x25), (3, .int x20), (0, .ref (qa k)), (1, .int r1)]) X.1 X.2.1 dX6_dayIn_69 hl (k := 3) rfl (by rw [ex25]; rfl) (by decide) rfl (fun ls hl => ?_)
              refine lv_goto (tgt := 7) X.1 X.2.1 dX6_dayIn_72 (by decide) ?_
              exact ih2 x25 (upd arr_s_2 (Int32.toNatClampNeg (2 + v2_2)) x20) _ _ _ _ hf hP hS hG_s hfr (lv_sub hl [2, 3, 0] rfl)
            · have hf := ifn hf c23
              refine lv_aload_n X.1 X.2.1 dX6_dayIn_58 rfl (lv_at hl 1 rfl) ?_
              refine lv_bipush (v := 20) X.1 X.2.1 dX6_dayIn_59 (by decide) ?_
              refine lv_iload_n X.1 X.2.1 dX6_dayIn_61 rfl (lv_at hl 3 rfl) ?_
              refine lv_iadd X.1 X.2.1 dX6_dayIn_62 ?_
              obtain ⟨hi26, hf⟩ := gin_of hf
              refine x_iald X hP hG_s (by omega) hi26 dX6_dayIn_63 ?_
              refine lv_goto (tgt := 68) X.1 X.2.1 dX6_dayIn_64 (by decide) ?_
              obtain ⟨hi27, hf⟩ := gin_of hf
              refine x_iast X hP hS hG_s (by omega) hi27 dX6_dayIn_68 (fun E H locs h1 hk hP hS => ?_)
              have hG_s := h1
              have hfr : ∀ j, j ≠ k → E j = E0 j := fun j o0 => (hk j (by omega)).trans (hfr j o0)
              obtain ⟨x28, ex28, hf⟩ := nm_of hf
              refine lv_iinc (v := x28) (lv' := [(2, .int x28), (3, .int x20), (0, .ref (qa k)), (1, .int r1)]) X.1 X.2.1 dX6_dayIn_69 hl (k := 3) rfl (by rw [ex28]; rfl) (by decide) rfl (fun ls hl => ?_)
              refine lv_goto (tgt := 7) X.1 X.2.1 dX6_dayIn_72 (by decide) ?_
              exact ih2 x28 (upd arr_s_2 (Int32.toNatClampNeg (2 + v2_2)) (arr_s_2 (Int32.toNatClampNeg (20 + v2_2)))) _ _ _ _ hf hP hS hG_s hfr (lv_sub hl [2, 3, 0] rfl)
          · have hf := ifn hf c21
            refine lv_iconst (v := 0) X.1 X.2.1 dX6_dayIn_44 (by decide) ?_
            refine lv_goto (tgt := 68) X.1 X.2.1 dX6_dayIn_45 (by decide) ?_
            obtain ⟨hi29, hf⟩ := gin_of hf
            refine x_iast X hP hS hG_s (by omega) hi29 dX6_dayIn_68 (fun E H locs h1 hk hP hS => ?_)
            have hG_s := h1
            have hfr : ∀ j, j ≠ k → E j = E0 j := fun j o0 => (hk j (by omega)).trans (hfr j o0)
            obtain ⟨x30, ex30, hf⟩ := nm_of hf
            refine lv_iinc (v := x30) (lv' := [(2, .int x30), (3, .int x20), (0, .ref (qa k)), (1, .int r1)]) X.1 X.2.1 dX6_dayIn_69 hl (k := 3) rfl (by rw [ex30]; rfl) (by decide) rfl (fun ls hl => ?_)
            refine lv_goto (tgt := 7) X.1 X.2.1 dX6_dayIn_72 (by decide) ?_
            exact ih2 x30 (upd arr_s_2 (Int32.toNatClampNeg (2 + v2_2)) 0) _ _ _ _ hf hP hS hG_s hfr (lv_sub hl [2, 3, 0] rfl)
  exact lp2 FU 0 arr_s _ _ _ _ hf hP hS hG_s hfr (lv_sub hl [2, 1, 0] rfl)
def bX6_goOn_2 (p1 : Int32) (K1 : ((Int32 × (Nat → Int32))) → Option ((Nat → Int32))) : ((Int32 × (Nat → Int32))) → Option ((Nat → Int32))
  | (v2_1, tri_M_1) => if p1 ≤ v2_1 then (some tri_M_1) else ((fX6_dayIn tri_M_1).bind (fun r3 => nm (v2_1 + 1) (fun x4 => K1 (x4, r3))))
def fX6_goOn (p1 : Int32)  (tri_M : Nat → Int32) : Option ((Nat → Int32)) := lp (bX6_goOn_2 p1) FU (0, tri_M)
theorem in_X6_goOn_X6 : ∀ w ∈ wsX60, w ∈ wsX6_goOn := by decide +kernel
set_option maxHeartbeats 4000000 in
set_option maxRecDepth 100000 in
theorem ct_X6_goOn {l : Launch} {D : va_G} {g : Nat → ClassId} {qa : Nat → Nat} {E0 : Nat → va_E} {p1 : Int32} {ltr_M : Int32} {pos_M : Int32} {num_M : Int32} {isk_M : Int32} {bm_M : Int32} {bch_M : Int32} {lan_M : Nat → Int32} {siz_M : Nat → Int32} {itm_M : Nat → Int64} {tap_M : Nat → Int32} {now_M : Nat → Int32} {tri_M : Nat → Int32} {rd_M : Nat → Int32} {kp_M : Nat → Int32} {bes_M : Nat → Int32} (hG_M : Mo g qa E0 64 ltr_M pos_M num_M isk_M bm_M bch_M lan_M siz_M itm_M tap_M now_M tri_M rd_M kp_M bes_M) {R : ((Nat → Int32))} (hf : fX6_goOn p1 tri_M = some R) : MV l yX6_goOn wsX6_goOn 6 D g qa E0 [.ref (qa 64), .int p1] (fun E => Mo g qa E 64 ltr_M pos_M num_M isk_M bm_M bch_M lan_M siz_M itm_M tap_M now_M R rd_M kp_M bes_M ∧ ∀ j, (j < 64 ∨ 74 ≤ j) → E j = E0 j) := by
  refine MV.mk (by decide) rfl (Nat.le_of_ble_eq_true rfl) ?_
  intro p e s m args below meth c ls Q X hret hP hS hl
  have hl : lv_has ls 3 [(0, .ref (qa 64)), (1, .int p1)] := hl
  have hfr : ∀ j, (j < 64 ∨ 74 ≤ j) → E0 j = E0 j := fun _ _ => rfl
  rw [fX6_goOn] at hf
  refine lv_iconst (v := 0) X.1 X.2.1 dX6_goOn_0 (by decide) ?_
  refine lv_istore_n (lv' := [(2, .int 0), (0, .ref (qa 64)), (1, .int p1)]) X.1 X.2.1 dX6_goOn_1 rfl hl (by decide) rfl (fun ls hl => ?_)
  have lp1 : ∀ (n1 : Nat) (v2_1 : Int32) (tri_M_1 : Nat → Int32) (E : Nat → va_E) (H : Heap) (locs : List Loc) (ls : Array Slot), lp (bX6_goOn_2 p1) n1 (v2_1, tri_M_1) = some R → va_P D vwCl (WD qa E) H → va_S (gA qa s.heap.size) s.heap H locs → Mo g qa E 64 ltr_M pos_M num_M isk_M bm_M bch_M lan_M siz_M itm_M tap_M now_M tri_M_1 rd_M kp_M bes_M → (∀ j, (j < 64 ∨ 74 ≤ j) → E j = E0 j) → lv_has ls 3 [(0, .ref (qa 64)), (1, .int p1), (2, .int v2_1)] → W p l e (rmf 6) s m args below meth c H locs 0 0 Q (F0 m 2 ls []) := by
    intro n1
    induction n1 with
    | zero =>
      intro v2_1 tri_M_1 E H locs ls hf
      exact absurd hf (by intro h; cases h)
    | succ n1 ih1 =>
      intro v2_1 tri_M_1 E H locs ls hf hP hS hG_M hfr hl
      have hf : bX6_goOn_2 p1 (lp (bX6_goOn_2 p1) n1) (v2_1, tri_M_1) = some R := hf
      rw [bX6_goOn_2] at hf
      refine lv_iload_n X.1 X.2.1 dX6_goOn_2 rfl (lv_at hl 2 rfl) ?_
      refine lv_iload_n X.1 X.2.1 dX6_goOn_3 rfl (lv_at hl 1 rfl) ?_
      refine lv_icmp_ge (tgt := 20) X.1 X.2.1 dX6_goOn_4 (by decide) (fun c2 => ?_) (fun c2 => ?_)
      · have hf := ifp hf c2
        obtain rfl := Option.some.inj hf
        exact hret _ _ _ _ _ dX6_goOn_20 (⟨hG_M, hfr⟩) hP hS
      · have hf := ifn hf c2
        refine lv_aload_n X.1 X.2.1 dX6_goOn_7 rfl (lv_at hl 0 rfl) ?_
        refine x_get X hP hG_M.1 (by omega) rfl in_X6_goOn_X6 8 (by decide) (by decide +kernel) rfl rfl dX6_goOn_8 ?_
        obtain ⟨r3, hr3, hf⟩ := bd_of hf
        refine x_callSv X hP hS (index := 131) (n := 1) (As := [.ref (qa (64 + 6))]) (ct_X6_dayIn (by omega) hG_M.2.2.2.2.2.2.1 hr3) ggX6_goOn_X6_dayIn (by decide +kernel) (by decide +kernel) (by decide +kernel) rfl (by decide +kernel) ⟨by decide, by decide⟩ rfl hl.1 rfl (Nat.le_of_ble_eq_true rfl) dX6_goOn_11 (fun E H locs hp hP hS => ?_)
        obtain ⟨hW_s, hk⟩ := hp
        have hG_M := Mo_set_6 hG_M hW_s hk
        have hfr : ∀ j, (j < 64 ∨ 74 ≤ j) → E j = E0 j := fun j o0 => (hk j (by omega)).trans (hfr j o0)
        obtain ⟨x4, ex4, hf⟩ := nm_of hf
        refine lv_iinc (v := x4) (lv' := [(2, .int x4), (0, .ref (qa 64)), (1, .int p1)]) X.1 X.2.1 dX6_goOn_14 hl (k := 2) rfl (by rw [ex4]; rfl) (by decide) rfl (fun ls hl => ?_)
        refine lv_goto (tgt := 2) X.1 X.2.1 dX6_goOn_17 (by decide) ?_
        exact ih1 x4 r3 _ _ _ _ hf hP hS hG_M hfr (lv_sub hl [1, 2, 0] rfl)
  exact lp1 FU 0 tri_M _ _ _ _ hf hP hS hG_M hfr (lv_sub hl [1, 2, 0] rfl)
def fX6_ahead (p1 : Int32) (p2 : Int32) (p3 : Int32)  (now_M : Nat → Int32) (tri_M : Nat → Int32) : Option (Int32 × (Nat → Int32)) := (fX6_isMan p1 now_M).bind (fun r1 => if r1 = 0 then (some ((-1), tri_M)) else ((fX6_in p2 0 60).bind (fun r3 => if r3 = 0 then (some ((-1), tri_M)) else ((fX6_in p3 0 1).bind (fun r5 => if r5 = 0 then (some ((-1), tri_M)) else ((fX6_begin now_M tri_M).bind (fun r7 => (fX6_goOn p2 r7).bind (fun r8 => if p3 = 0 then (gin (2 + p1) 191 (some (r8 (Int32.toNatClampNeg (2 + p1)), r8))) else ((fX6_load p1 r8).bind (fun r10 => some (r10, r8)))))))))))
theorem in_X6_ahead_X6 : ∀ w ∈ wsX60, w ∈ wsX6_ahead := by decide +kernel
set_option maxHeartbeats 4000000 in
set_option maxRecDepth 100000 in
theorem ct_X6_ahead {l : Launch} {D : va_G} {g : Nat → ClassId} {qa : Nat → Nat} {E0 : Nat → va_E} {p1 : Int32} {p2 : Int32} {p3 : Int32} {ltr_M : Int32} {pos_M : Int32} {num_M : Int32} {isk_M : Int32} {bm_M : Int32} {bch_M : Int32} {lan_M : Nat → Int32} {siz_M : Nat → Int32} {itm_M : Nat → Int64} {tap_M : Nat → Int32} {now_M : Nat → Int32} {tri_M : Nat → Int32} {rd_M : Nat → Int32} {kp_M : Nat → Int32} {bes_M : Nat → Int32} (hG_M : Mo g qa E0 64 ltr_M pos_M num_M isk_M bm_M bch_M lan_M siz_M itm_M tap_M now_M tri_M rd_M kp_M bes_M) {R : (Int32 × (Nat → Int32))} (hf : fX6_ahead p1 p2 p3 now_M tri_M = some R) : MI l yX6_ahead wsX6_ahead 7 D g qa E0 [.ref (qa 64), .int p1, .int p2, .int p3] R.1 (fun E => Mo g qa E 64 ltr_M pos_M num_M isk_M bm_M bch_M lan_M siz_M itm_M tap_M now_M R.2 rd_M kp_M bes_M ∧ ∀ j, (j < 64 ∨ 74 ≤ j) → E j = E0 j) := by
  refine MI.mk (by decide) rfl (Nat.le_of_ble_eq_true rfl) ?_
  intro p e s m args below meth c ls Q X hret hP hS hl
  have hl : lv_has ls 4 [(0, .ref (qa 64)), (1, .int p1), (2, .int p2), (3, .int p3)] := hl
  have hfr : ∀ j, (j < 64 ∨ 74 ≤ j) → E0 j = E0 j := fun _ _ => rfl
  rw [fX6_ahead] at hf
  refine lv_aload_n X.1 X.2.1 dX6_ahead_0 rfl (lv_at hl 0 rfl) ?_
  refine lv_iload_n X.1 X.2.1 dX6_ahead_1 rfl (lv_at hl 1 rfl) ?_
  obtain ⟨r1, hr1, hf⟩ := bd_of hf
  refine x_rdVi X hP hS hG_M.1 (by omega) rfl (n := 1) (As := [.int p1]) (ct_X6_isMan hG_M hr1) gX6_ahead_X6_isMan rfl (by decide +kernel) ⟨by decide, by decide⟩ rfl hl.1 rfl (Nat.le_of_ble_eq_true rfl) dX6_ahead_2 (fun H locs hP hS => ?_)
  refine lv_if_eq (tgt := 27) X.1 X.2.1 dX6_ahead_5 (by decide) (fun c2 => ?_) (fun c2 => ?_)
  · have hf := ifp hf c2
    refine lv_iconst (v := (-1)) X.1 X.2.1 dX6_ahead_27 (by decide) ?_
    obtain rfl := Option.some.inj hf
    exact hret _ _ _ _ _ _ dX6_ahead_28 rfl rfl (⟨hG_M, hfr⟩) hP hS
  · have hf := ifn hf c2
    refine lv_iload_n X.1 X.2.1 dX6_ahead_8 rfl (lv_at hl 2 rfl) ?_
    refine lv_iconst (v := 0) X.1 X.2.1 dX6_ahead_9 (by decide) ?_
    refine lv_bipush (v := 60) X.1 X.2.1 dX6_ahead_10 (by decide) ?_
    obtain ⟨r3, hr3, hf⟩ := bd_of hf
    refine x_rdSi X hP hS (index := 38) (n := 3) (As := [.int p2, .int 0, .int 60]) (ct_X6_in  hr3) ggX6_ahead_X6_in (by decide +kernel) (by decide +kernel) (by decide +kernel) rfl (by decide +kernel) ⟨by decide, by decide⟩ rfl hl.1 rfl (Nat.le_of_ble_eq_true rfl) dX6_ahead_12 (fun H locs hP hS => ?_)
    refine lv_if_eq (tgt := 27) X.1 X.2.1 dX6_ahead_15 (by decide) (fun c4 => ?_) (fun c4 => ?_)
    · have hf := ifp hf c4
      refine lv_iconst (v := (-1)) X.1 X.2.1 dX6_ahead_27 (by decide) ?_
      obtain rfl := Option.some.inj hf
      exact hret _ _ _ _ _ _ dX6_ahead_28 rfl rfl (⟨hG_M, hfr⟩) hP hS
    · have hf := ifn hf c4
      refine lv_iload_n X.1 X.2.1 dX6_ahead_18 rfl (lv_at hl 3 rfl) ?_
      refine lv_iconst (v := 0) X.1 X.2.1 dX6_ahead_19 (by decide) ?_
      refine lv_iconst (v := 1) X.1 X.2.1 dX6_ahead_20 (by decide) ?_
      obtain ⟨r5, hr5, hf⟩ := bd_of hf
      refine x_rdSi X hP hS (index := 38) (n := 3) (As := [.int p3, .int 0, .int 1]) (ct_X6_in  hr5) ggX6_ahead_X6_in (by decide +kernel) (by decide +kernel) (by decide +kernel) rfl (by decide +kernel) ⟨by decide, by decide⟩ rfl hl.1 rfl (Nat.le_of_ble_eq_true rfl) dX6_ahead_21 (fun H locs hP hS => ?_)
      refine lv_if_ne (tgt := 29) X.1 X.2.1 dX6_ahead_24 (by decide) (fun c6 => ?_) (fun c6 => ?_)
      · have hf := ifn hf c6
        refine lv_aload_n X.1 X.2.1 dX6_ahead_29 rfl (lv_at hl 0 rfl) ?_
        obtain ⟨r7, hr7, hf⟩ := bd_of hf
        refine x_callVv X hP hS hG_M.1 (by omega) rfl (n := 0) (As := []) (ct_X6_begin hG_M hr7) gX6_ahead_X6_begin rfl (by decide +kernel) ⟨by decide, by decide⟩ rfl hl.1 rfl (Nat.le_of_ble_eq_true rfl) dX6_ahead_30 (fun E H locs hp hP hS => ?_)
        obtain ⟨hW_M, hk⟩ := hp
        have hG_M := hW_M
        have hfr : ∀ j, (j < 64 ∨ 74 ≤ j) → E j = E0 j := fun j o0 => (hk j (by omega)).trans (hfr j o0)
        refine lv_aload_n X.1 X.2.1 dX6_ahead_33 rfl (lv_at hl 0 rfl) ?_
        refine lv_iload_n X.1 X.2.1 dX6_ahead_34 rfl (lv_at hl 2 rfl) ?_
        obtain ⟨r8, hr8, hf⟩ := bd_of hf
        refine x_callVv X hP hS hG_M.1 (by omega) rfl (n := 1) (As := [.int p2]) (ct_X6_goOn hG_M hr8) gX6_ahead_X6_goOn rfl (by decide +kernel) ⟨by decide, by decide⟩ rfl hl.1 rfl (Nat.le_of_ble_eq_true rfl) dX6_ahead_35 (fun E H locs hp hP hS => ?_)
        obtain ⟨hW_M, hk⟩ := hp
        have hG_M := hW_M
        have hfr : ∀ j, (j < 64 ∨ 74 ≤ j) → E j = E0 j := fun j o0 => (hk j (by omega)).trans (hfr j o0)
        refine lv_iload_n X.1 X.2.1 dX6_ahead_38 rfl (lv_at hl 3 rfl) ?_
        refine lv_if_ne (tgt := 53) X.1 X.2.1 dX6_ahead_39 (by decide) (fun c9 => ?_) (fun c9 => ?_)
        · have hf := ifn hf c9
          refine lv_aload_n X.1 X.2.1 dX6_ahead_53 rfl (lv_at hl 0 rfl) ?_
          refine x_get X hP hG_M.1 (by omega) rfl in_X6_ahead_X6 8 (by decide) (by decide +kernel) rfl rfl dX6_ahead_54 ?_
          refine lv_iload_n X.1 X.2.1 dX6_ahead_57 rfl (lv_at hl 1 rfl) ?_
          obtain ⟨r10, hr10, hf⟩ := bd_of hf
          refine x_rdSi X hP hS (index := 64) (n := 2) (As := [.ref (qa (64 + 6)), .int p1]) (ct_X6_load (by omega) hG_M.2.2.2.2.2.2.1 hr10) ggX6_ahead_X6_load (by decide +kernel) (by decide +kernel) (by decide +kernel) rfl (by decide +kernel) ⟨by decide, by decide⟩ rfl hl.1 rfl (Nat.le_of_ble_eq_true rfl) dX6_ahead_58 (fun H locs hP hS => ?_)
          obtain rfl := Option.some.inj hf
          exact hret _ _ _ _ _ _ dX6_ahead_61 rfl rfl (⟨hG_M, hfr⟩) hP hS
        · have hf := ifp hf c9
          refine lv_aload_n X.1 X.2.1 dX6_ahead_42 rfl (lv_at hl 0 rfl) ?_
          refine x_get X hP hG_M.1 (by omega) rfl in_X6_ahead_X6 8 (by decide) (by decide +kernel) rfl rfl dX6_ahead_43 ?_
          refine lv_iconst (v := 2) X.1 X.2.1 dX6_ahead_46 (by decide) ?_
          refine lv_iload_n X.1 X.2.1 dX6_ahead_47 rfl (lv_at hl 1 rfl) ?_
          refine lv_iadd X.1 X.2.1 dX6_ahead_48 ?_
          obtain ⟨hi11, hf⟩ := gin_of hf
          refine x_iald X hP hG_M.2.2.2.2.2.2.1 (by omega) hi11 dX6_ahead_49 ?_
          refine lv_goto (tgt := 61) X.1 X.2.1 dX6_ahead_50 (by decide) ?_
          obtain rfl := Option.some.inj hf
          exact hret _ _ _ _ _ _ dX6_ahead_61 rfl rfl (⟨hG_M, hfr⟩) hP hS
      · have hf := ifp hf c6
        refine lv_iconst (v := (-1)) X.1 X.2.1 dX6_ahead_27 (by decide) ?_
        obtain rfl := Option.some.inj hf
        exact hret _ _ _ _ _ _ dX6_ahead_28 rfl rfl (⟨hG_M, hfr⟩) hP hS
def fX6_isMedal (p1 : Int32)  (now_M : Nat → Int32) : Option Int32 := gin 25 191 ((fX6_in p1 0 ((now_M (Int32.toNatClampNeg 25)) - 1)).bind (fun r2 => gbz r2 (some r2)))
theorem in_X6_isMedal_X6 : ∀ w ∈ wsX60, w ∈ wsX6_isMedal := by decide +kernel
set_option maxHeartbeats 4000000 in
set_option maxRecDepth 100000 in
theorem ct_X6_isMedal {l : Launch} {D : va_G} {g : Nat → ClassId} {qa : Nat → Nat} {E0 : Nat → va_E} {p1 : Int32} {ltr_M : Int32} {pos_M : Int32} {num_M : Int32} {isk_M : Int32} {bm_M : Int32} {bch_M : Int32} {lan_M : Nat → Int32} {siz_M : Nat → Int32} {itm_M : Nat → Int64} {tap_M : Nat → Int32} {now_M : Nat → Int32} {tri_M : Nat → Int32} {rd_M : Nat → Int32} {kp_M : Nat → Int32} {bes_M : Nat → Int32} (hG_M : Mo g qa E0 64 ltr_M pos_M num_M isk_M bm_M bch_M lan_M siz_M itm_M tap_M now_M tri_M rd_M kp_M bes_M) {R : Int32} (hf : fX6_isMedal p1 now_M = some R) : MI l yX6_isMedal wsX6_isMedal 1 D g qa E0 [.ref (qa 64), .int p1] R (fun E => E = E0) := by
  refine MI.mk (by decide) rfl (Nat.le_of_ble_eq_true rfl) ?_
  intro p e s m args below meth c ls Q X hret hP hS hl
  have hl : lv_has ls 2 [(0, .ref (qa 64)), (1, .int p1)] := hl
  rw [fX6_isMedal] at hf
  refine lv_iload_n X.1 X.2.1 dX6_isMedal_0 rfl (lv_at hl 1 rfl) ?_
  refine lv_iconst (v := 0) X.1 X.2.1 dX6_isMedal_1 (by decide) ?_
  refine lv_aload_n X.1 X.2.1 dX6_isMedal_2 rfl (lv_at hl 0 rfl) ?_
  refine x_get X hP hG_M.1 (by omega) rfl in_X6_isMedal_X6 7 (by decide) (by decide +kernel) rfl rfl dX6_isMedal_3 ?_
  refine lv_bipush (v := 25) X.1 X.2.1 dX6_isMedal_6 (by decide) ?_
  obtain ⟨hi1, hf⟩ := gin_of hf
  refine x_iald X hP hG_M.2.2.2.2.2.1 (by omega) hi1 dX6_isMedal_8 ?_
  refine lv_iconst (v := 1) X.1 X.2.1 dX6_isMedal_9 (by decide) ?_
  refine lv_isub X.1 X.2.1 dX6_isMedal_10 ?_
  obtain ⟨r2, hr2, hf⟩ := bd_of hf
  refine x_rdSi X hP hS (index := 38) (n := 3) (As := [.int p1, .int 0, .int ((now_M (Int32.toNatClampNeg 25)) - 1)]) (ct_X6_in  hr2) ggX6_isMedal_X6_in (by decide +kernel) (by decide +kernel) (by decide +kernel) rfl (by decide +kernel) ⟨by decide, by decide⟩ rfl hl.1 rfl (Nat.le_of_ble_eq_true rfl) dX6_isMedal_11 (fun H locs hP hS => ?_)
  obtain ⟨hb3, hf⟩ := gbz_of hf
  obtain rfl := Option.some.inj hf
  exact hret _ _ _ _ _ _ dX6_isMedal_14 (gbz_n hb3) rfl (rfl) hP hS
def fX6_at (p1 : Int32) (p2 : Int32)  (now_M : Nat → Int32) : Option Int32 := (fX6_isMedal p1 now_M).bind (fun r1 => if r1 = 0 then (some (-1)) else (if p2 = 0 then (gin (26 + p1) 191 (some (now_M (Int32.toNatClampNeg (26 + p1))))) else (if p2 = 1 then (gin (7 + p1) 191 (some (now_M (Int32.toNatClampNeg (7 + p1))))) else (if p2 = 2 then (gin (32 + p1) 191 (some (now_M (Int32.toNatClampNeg (32 + p1))))) else (if p2 = 3 then (gin (13 + p1) 191 (some (now_M (Int32.toNatClampNeg (13 + p1))))) else (if p2 = 4 then ((fX6_bears p1 now_M).bind (fun r12 => some r12)) else (some (-1))))))))
theorem in_X6_at_X6 : ∀ w ∈ wsX60, w ∈ wsX6_at := by decide +kernel
set_option maxHeartbeats 4000000 in
set_option maxRecDepth 100000 in
theorem ct_X6_at {l : Launch} {D : va_G} {g : Nat → ClassId} {qa : Nat → Nat} {E0 : Nat → va_E} {p1 : Int32} {p2 : Int32} {ltr_M : Int32} {pos_M : Int32} {num_M : Int32} {isk_M : Int32} {bm_M : Int32} {bch_M : Int32} {lan_M : Nat → Int32} {siz_M : Nat → Int32} {itm_M : Nat → Int64} {tap_M : Nat → Int32} {now_M : Nat → Int32} {tri_M : Nat → Int32} {rd_M : Nat → Int32} {kp_M : Nat → Int32} {bes_M : Nat → Int32} (hG_M : Mo g qa E0 64 ltr_M pos_M num_M isk_M bm_M bch_M lan_M siz_M itm_M tap_M now_M tri_M rd_M kp_M bes_M) {R : Int32} (hf : fX6_at p1 p2 now_M = some R) : MI l yX6_at wsX6_at 2 D g qa E0 [.ref (qa 64), .int p1, .int p2] R (fun E => E = E0) := by
  refine MI.mk (by decide) rfl (Nat.le_of_ble_eq_true rfl) ?_
  intro p e s m args below meth c ls Q X hret hP hS hl
  have hl : lv_has ls 3 [(0, .ref (qa 64)), (1, .int p1), (2, .int p2)] := hl
  rw [fX6_at] at hf
  refine lv_aload_n X.1 X.2.1 dX6_at_0 rfl (lv_at hl 0 rfl) ?_
  refine lv_iload_n X.1 X.2.1 dX6_at_1 rfl (lv_at hl 1 rfl) ?_
  obtain ⟨r1, hr1, hf⟩ := bd_of hf
  refine x_rdVi X hP hS hG_M.1 (by omega) rfl (n := 1) (As := [.int p1]) (ct_X6_isMedal hG_M hr1) gX6_at_X6_isMedal rfl (by decide +kernel) ⟨by decide, by decide⟩ rfl hl.1 rfl (Nat.le_of_ble_eq_true rfl) dX6_at_2 (fun H locs hP hS => ?_)
  refine lv_if_ne (tgt := 10) X.1 X.2.1 dX6_at_5 (by decide) (fun c2 => ?_) (fun c2 => ?_)
  · have hf := ifn hf c2
    refine lv_iload_n X.1 X.2.1 dX6_at_10 rfl (lv_at hl 2 rfl) ?_
    by_cases w3 : p2 = 0
    · have hf := ifp hf w3
      refine lv_tableIn (tgt := 44) X.1 X.2.1 dX6_at_11 (by rw [w3]; decide) (by rw [w3]; decide) (off := 33) (by rw [w3]; decide) (by decide) ?_
      refine lv_aload_n X.1 X.2.1 dX6_at_44 rfl (lv_at hl 0 rfl) ?_
      refine x_get X hP hG_M.1 (by omega) rfl in_X6_at_X6 7 (by decide) (by decide +kernel) rfl rfl dX6_at_45 ?_
      refine lv_bipush (v := 26) X.1 X.2.1 dX6_at_48 (by decide) ?_
      refine lv_iload_n X.1 X.2.1 dX6_at_50 rfl (lv_at hl 1 rfl) ?_
      refine lv_iadd X.1 X.2.1 dX6_at_51 ?_
      obtain ⟨hi4, hf⟩ := gin_of hf
      refine x_iald X hP hG_M.2.2.2.2.2.1 (by omega) hi4 dX6_at_52 ?_
      obtain rfl := Option.some.inj hf
      exact hret _ _ _ _ _ _ dX6_at_53 rfl rfl (rfl) hP hS
    have hf := ifn hf w3
    by_cases w5 : p2 = 1
    · have hf := ifp hf w5
      refine lv_tableIn (tgt := 54) X.1 X.2.1 dX6_at_11 (by rw [w5]; decide) (by rw [w5]; decide) (off := 43) (by rw [w5]; decide) (by decide) ?_
      refine lv_aload_n X.1 X.2.1 dX6_at_54 rfl (lv_at hl 0 rfl) ?_
      refine x_get X hP hG_M.1 (by omega) rfl in_X6_at_X6 7 (by decide) (by decide +kernel) rfl rfl dX6_at_55 ?_
      refine lv_bipush (v := 7) X.1 X.2.1 dX6_at_58 (by decide) ?_
      refine lv_iload_n X.1 X.2.1 dX6_at_60 rfl (lv_at hl 1 rfl) ?_
      refine lv_iadd X.1 X.2.1 dX6_at_61 ?_
      obtain ⟨hi6, hf⟩ := gin_of hf
      refine x_iald X hP hG_M.2.2.2.2.2.1 (by omega) hi6 dX6_at_62 ?_
      obtain rfl := Option.some.inj hf
      exact hret _ _ _ _ _ _ dX6_at_63 rfl rfl (rfl) hP hS
    have hf := ifn hf w5
    by_cases w7 : p2 = 2
    · have hf := ifp hf w7
      refine lv_tableIn (tgt := 64) X.1 X.2.1 dX6_at_11 (by rw [w7]; decide) (by rw [w7]; decide) (off := 53) (by rw [w7]; decide) (by decide) ?_
      refine lv_aload_n X.1 X.2.1 dX6_at_64 rfl (lv_at hl 0 rfl) ?_
      refine x_get X hP hG_M.1 (by omega) rfl in_X6_at_X6 7 (by decide) (by decide +kernel) rfl rfl dX6_at_65 ?_
      refine lv_bipush (v := 32) X.1 X.2.1 dX6_at_68 (by decide) ?_
      refine lv_iload_n X.1 X.2.1 dX6_at_70 rfl (lv_at hl 1 rfl) ?_
      refine lv_iadd X.1 X.2.1 dX6_at_71 ?_
      obtain ⟨hi8, hf⟩ := gin_of hf
      refine x_iald X hP hG_M.2.2.2.2.2.1 (by omega) hi8 dX6_at_72 ?_
      obtain rfl := Option.some.inj hf
      exact hret _ _ _ _ _ _ dX6_at_73 rfl rfl (rfl) hP hS
    have hf := ifn hf w7
    by_cases w9 : p2 = 3
    · have hf := ifp hf w9
      refine lv_tableIn (tgt := 74) X.1 X.2.1 dX6_at_11 (by rw [w9]; decide) (by rw [w9]; decide) (off := 63) (by rw [w9]; decide) (by decide) ?_
      refine lv_aload_n X.1 X.2.1 dX6_at_74 rfl (lv_at hl 0 rfl) ?_
      refine x_get X hP hG_M.1 (by omega) rfl in_X6_at_X6 7 (by decide) (by decide +kernel) rfl rfl dX6_at_75 ?_
      refine lv_bipush (v := 13) X.1 X.2.1 dX6_at_78 (by decide) ?_
      refine lv_iload_n X.1 X.2.1 dX6_at_80 rfl (lv_at hl 1 rfl) ?_
      refine lv_iadd X.1 X.2.1 dX6_at_81 ?_
      obtain ⟨hi10, hf⟩ := gin_of hf
      refine x_iald X hP hG_M.2.2.2.2.2.1 (by omega) hi10 dX6_at_82 ?_
      obtain rfl := Option.some.inj hf
      exact hret _ _ _ _ _ _ dX6_at_83 rfl rfl (rfl) hP hS
    have hf := ifn hf w9
    by_cases w11 : p2 = 4
    · have hf := ifp hf w11
      refine lv_tableIn (tgt := 84) X.1 X.2.1 dX6_at_11 (by rw [w11]; decide) (by rw [w11]; decide) (off := 73) (by rw [w11]; decide) (by decide) ?_
      refine lv_aload_n X.1 X.2.1 dX6_at_84 rfl (lv_at hl 0 rfl) ?_
      refine x_get X hP hG_M.1 (by omega) rfl in_X6_at_X6 7 (by decide) (by decide +kernel) rfl rfl dX6_at_85 ?_
      refine lv_iload_n X.1 X.2.1 dX6_at_88 rfl (lv_at hl 1 rfl) ?_
      obtain ⟨r12, hr12, hf⟩ := bd_of hf
      refine x_rdSi X hP hS (index := 61) (n := 2) (As := [.ref (qa (64 + 5)), .int p1]) (ct_X6_bears (by omega) hG_M.2.2.2.2.2.1 hr12) ggX6_at_X6_bears (by decide +kernel) (by decide +kernel) (by decide +kernel) rfl (by decide +kernel) ⟨by decide, by decide⟩ rfl hl.1 rfl (Nat.le_of_ble_eq_true rfl) dX6_at_89 (fun H locs hP hS => ?_)
      obtain rfl := Option.some.inj hf
      exact hret _ _ _ _ _ _ dX6_at_92 rfl rfl (rfl) hP hS
    have hf := ifn hf w11
    refine lv_tableOut (tgt := 93) X.1 X.2.1 dX6_at_11 (by have := i_ne 0 (0) (by decide) w3; have := i_ne 1 (1) (by decide) w5; have := i_ne 2 (2) (by decide) w7; have := i_ne 3 (3) (by decide) w9; have := i_ne 4 (4) (by decide) w11; omega) (by decide) ?_
    refine lv_iconst (v := (-1)) X.1 X.2.1 dX6_at_93 (by decide) ?_
    obtain rfl := Option.some.inj hf
    exact hret _ _ _ _ _ _ dX6_at_94 rfl rfl (rfl) hP hS
  · have hf := ifp hf c2
    refine lv_iconst (v := (-1)) X.1 X.2.1 dX6_at_8 (by decide) ?_
    obtain rfl := Option.some.inj hf
    exact hret _ _ _ _ _ _ dX6_at_9 rfl rfl (rfl) hP hS
def fX6_isSheet (p1 : Int32)   : Option Int32 := (fX6_in p1 0 3).bind (fun r1 => gbz r1 (some r1))
set_option maxHeartbeats 4000000 in
set_option maxRecDepth 100000 in
theorem ct_X6_isSheet {l : Launch} {D : va_G} {g : Nat → ClassId} {qa : Nat → Nat} {E0 : Nat → va_E} {p1 : Int32} {R : Int32} (hf : fX6_isSheet p1 = some R) : MI l yX6_isSheet wsX6_isSheet 1 D g qa E0 [.int p1] R (fun E => E = E0) := by
  refine MI.mk (by decide) rfl (Nat.le_of_ble_eq_true rfl) ?_
  intro p e s m args below meth c ls Q X hret hP hS hl
  have hl : lv_has ls 1 [(0, .int p1)] := hl
  rw [fX6_isSheet] at hf
  refine lv_iload_n X.1 X.2.1 dX6_isSheet_0 rfl (lv_at hl 0 rfl) ?_
  refine lv_iconst (v := 0) X.1 X.2.1 dX6_isSheet_1 (by decide) ?_
  refine lv_iconst (v := 3) X.1 X.2.1 dX6_isSheet_2 (by decide) ?_
  obtain ⟨r1, hr1, hf⟩ := bd_of hf
  refine x_rdSi X hP hS (index := 38) (n := 3) (As := [.int p1, .int 0, .int 3]) (ct_X6_in  hr1) ggX6_isSheet_X6_in (by decide +kernel) (by decide +kernel) (by decide +kernel) rfl (by decide +kernel) ⟨by decide, by decide⟩ rfl hl.1 rfl (Nat.le_of_ble_eq_true rfl) dX6_isSheet_3 (fun H locs hP hS => ?_)
  obtain ⟨hb2, hf⟩ := gbz_of hf
  obtain rfl := Option.some.inj hf
  exact hret _ _ _ _ _ _ dX6_isSheet_6 (gbz_n hb2) rfl (rfl) hP hS
def fX6_isPart (p1 : Int32) (p2 : Int32) (p3 : Int32)   : Option Int32 := if p2 < 0 then (some 0) else (if p1 < 0 then (some 0) else (if p3 < p2 then (some 0) else (if (p3 - p2) < p1 then (some 0) else (some 1))))
set_option maxHeartbeats 4000000 in
set_option maxRecDepth 100000 in
theorem ct_X6_isPart {l : Launch} {D : va_G} {g : Nat → ClassId} {qa : Nat → Nat} {E0 : Nat → va_E} {p1 : Int32} {p2 : Int32} {p3 : Int32} {R : Int32} (hf : fX6_isPart p1 p2 p3 = some R) : MI l yX6_isPart wsX6_isPart 0 D g qa E0 [.int p1, .int p2, .int p3] R (fun E => E = E0) := by
  refine MI.mk (by decide) rfl (Nat.le_of_ble_eq_true rfl) ?_
  intro p e s m args below meth c ls Q X hret hP hS hl
  have hl : lv_has ls 3 [(0, .int p1), (1, .int p2), (2, .int p3)] := hl
  rw [fX6_isPart] at hf
  refine lv_iload_n X.1 X.2.1 dX6_isPart_0 rfl (lv_at hl 1 rfl) ?_
  refine lv_if_lt (tgt := 24) X.1 X.2.1 dX6_isPart_1 (by decide) (fun c1 => ?_) (fun c1 => ?_)
  · have hf := ifp hf c1
    refine lv_iconst (v := 0) X.1 X.2.1 dX6_isPart_24 (by decide) ?_
    obtain rfl := Option.some.inj hf
    exact hret _ _ _ _ _ _ dX6_isPart_25 rfl rfl (rfl) hP hS
  · have hf := ifn hf c1
    refine lv_iload_n X.1 X.2.1 dX6_isPart_4 rfl (lv_at hl 0 rfl) ?_
    refine lv_if_lt (tgt := 24) X.1 X.2.1 dX6_isPart_5 (by decide) (fun c2 => ?_) (fun c2 => ?_)
    · have hf := ifp hf c2
      refine lv_iconst (v := 0) X.1 X.2.1 dX6_isPart_24 (by decide) ?_
      obtain rfl := Option.some.inj hf
      exact hret _ _ _ _ _ _ dX6_isPart_25 rfl rfl (rfl) hP hS
    · have hf := ifn hf c2
      refine lv_iload_n X.1 X.2.1 dX6_isPart_8 rfl (lv_at hl 1 rfl) ?_
      refine lv_iload_n X.1 X.2.1 dX6_isPart_9 rfl (lv_at hl 2 rfl) ?_
      refine lv_icmp_gt (tgt := 24) X.1 X.2.1 dX6_isPart_10 (by decide) (fun c3 => ?_) (fun c3 => ?_)
      · have hf := ifp hf c3
        refine lv_iconst (v := 0) X.1 X.2.1 dX6_isPart_24 (by decide) ?_
        obtain rfl := Option.some.inj hf
        exact hret _ _ _ _ _ _ dX6_isPart_25 rfl rfl (rfl) hP hS
      · have hf := ifn hf c3
        refine lv_iload_n X.1 X.2.1 dX6_isPart_13 rfl (lv_at hl 0 rfl) ?_
        refine lv_iload_n X.1 X.2.1 dX6_isPart_14 rfl (lv_at hl 2 rfl) ?_
        refine lv_iload_n X.1 X.2.1 dX6_isPart_15 rfl (lv_at hl 1 rfl) ?_
        refine lv_isub X.1 X.2.1 dX6_isPart_16 ?_
        refine lv_icmp_gt (tgt := 24) X.1 X.2.1 dX6_isPart_17 (by decide) (fun c4 => ?_) (fun c4 => ?_)
        · have hf := ifp hf c4
          refine lv_iconst (v := 0) X.1 X.2.1 dX6_isPart_24 (by decide) ?_
          obtain rfl := Option.some.inj hf
          exact hret _ _ _ _ _ _ dX6_isPart_25 rfl rfl (rfl) hP hS
        · have hf := ifn hf c4
          refine lv_iconst (v := 1) X.1 X.2.1 dX6_isPart_20 (by decide) ?_
          refine lv_goto (tgt := 25) X.1 X.2.1 dX6_isPart_21 (by decide) ?_
          obtain rfl := Option.some.inj hf
          exact hret _ _ _ _ _ _ dX6_isPart_25 rfl rfl (rfl) hP hS
def bX6_copy_110 (p1 : Int32) (p2 : Int32) (p3 : Int32) (p4 : Int32) (p5 : Int32) (K19 : ((Int32 × (Nat → Int64))) → Option (Int32 × (Nat → Int64))) : ((Int32 × (Nat → Int64))) → Option (Int32 × (Nat → Int64))
  | (v7_19, itm_M_19) => if p5 ≤ v7_19 then (some (p5, itm_M_19)) else (gin (((24 * p1) + p2) + v7_19) 96 (gin (((24 * p3) + p4) + v7_19) 96 (nm (v7_19 + 1) (fun x23 => K19 (x23, vp_updL itm_M_19 (Int32.toNatClampNeg (((24 * p3) + p4) + v7_19)) (itm_M_19 (Int32.toNatClampNeg (((24 * p1) + p2) + v7_19))))))))
def bX6_copy_110_1 (p1 : Int32) (p2 : Int32) (p3 : Int32) (p4 : Int32) (p5 : Int32) (K25 : ((Int32 × (Nat → Int64))) → Option (Int32 × (Nat → Int64))) : ((Int32 × (Nat → Int64))) → Option (Int32 × (Nat → Int64))
  | (v7_25, itm_M_25) => if p5 ≤ v7_25 then (some (p5, itm_M_25)) else (gin (((24 * p1) + p2) + v7_25) 96 (gin (((24 * p3) + p4) + v7_25) 96 (nm (v7_25 + 1) (fun x29 => K25 (x29, vp_updL itm_M_25 (Int32.toNatClampNeg (((24 * p3) + p4) + v7_25)) (itm_M_25 (Int32.toNatClampNeg (((24 * p1) + p2) + v7_25))))))))
def bX6_copy_110_2 (p1 : Int32) (p2 : Int32) (p3 : Int32) (p4 : Int32) (p5 : Int32) (K30 : ((Int32 × (Nat → Int64))) → Option (Int32 × (Nat → Int64))) : ((Int32 × (Nat → Int64))) → Option (Int32 × (Nat → Int64))
  | (v7_30, itm_M_30) => if p5 ≤ v7_30 then (some (p5, itm_M_30)) else (nm ((p5 - 1) - v7_30) (fun x32 => gin (((24 * p1) + p2) + x32) 96 (gin (((24 * p3) + p4) + x32) 96 (nm (v7_30 + 1) (fun x35 => K30 (x35, vp_updL itm_M_30 (Int32.toNatClampNeg (((24 * p3) + p4) + x32)) (itm_M_30 (Int32.toNatClampNeg (((24 * p1) + p2) + x32)))))))))
def fX6_copy (p1 : Int32) (p2 : Int32) (p3 : Int32) (p4 : Int32) (p5 : Int32)  (lan_M : Nat → Int32) (siz_M : Nat → Int32) (itm_M : Nat → Int64) : Option (Int32 × (Nat → Int64)) := (fX6_isSheet p1).bind (fun r1 => if r1 = 0 then (some ((-1), itm_M)) else ((fX6_isSheet p3).bind (fun r3 => if r3 = 0 then (some ((-1), itm_M)) else (gin p1 4 (if (lan_M (Int32.toNatClampNeg p1)) < 0 then (some ((-11), itm_M)) else (gin p3 4 (if 0 ≤ (lan_M (Int32.toNatClampNeg p3)) then (gin p1 4 (gin p3 4 (if (lan_M (Int32.toNatClampNeg p1)) = (lan_M (Int32.toNatClampNeg p3)) then (gin p1 4 ((fX6_isPart p2 p5 (siz_M (Int32.toNatClampNeg p1))).bind (fun r13 => if r13 = 0 then (some ((-13), itm_M)) else (gin p3 4 ((fX6_isPart p4 p5 (siz_M (Int32.toNatClampNeg p3))).bind (fun r16 => if r16 = 0 then (some ((-13), itm_M)) else (if p1 = p3 then (if p4 ≤ p2 then (lp (bX6_copy_110_1 p1 p2 p3 p4 p5) FU (0, itm_M)) else (lp (bX6_copy_110_2 p1 p2 p3 p4 p5) FU (0, itm_M))) else (lp (bX6_copy_110 p1 p2 p3 p4 p5) FU (0, itm_M))))))))) else (some ((-12), itm_M))))) else (some ((-11), itm_M)))))))))
theorem in_X6_copy_X6 : ∀ w ∈ wsX60, w ∈ wsX6_copy := by decide +kernel
set_option maxHeartbeats 4000000 in
set_option maxRecDepth 100000 in
theorem ct_X6_copy {l : Launch} {D : va_G} {g : Nat → ClassId} {qa : Nat → Nat} {E0 : Nat → va_E} {p1 : Int32} {p2 : Int32} {p3 : Int32} {p4 : Int32} {p5 : Int32} {ltr_M : Int32} {pos_M : Int32} {num_M : Int32} {isk_M : Int32} {bm_M : Int32} {bch_M : Int32} {lan_M : Nat → Int32} {siz_M : Nat → Int32} {itm_M : Nat → Int64} {tap_M : Nat → Int32} {now_M : Nat → Int32} {tri_M : Nat → Int32} {rd_M : Nat → Int32} {kp_M : Nat → Int32} {bes_M : Nat → Int32} (hG_M : Mo g qa E0 64 ltr_M pos_M num_M isk_M bm_M bch_M lan_M siz_M itm_M tap_M now_M tri_M rd_M kp_M bes_M) {R : (Int32 × (Nat → Int64))} (hf : fX6_copy p1 p2 p3 p4 p5 lan_M siz_M itm_M = some R) : MI l yX6_copy wsX6_copy 2 D g qa E0 [.ref (qa 64), .int p1, .int p2, .int p3, .int p4, .int p5] R.1 (fun E => Mo g qa E 64 ltr_M pos_M num_M isk_M bm_M bch_M lan_M siz_M R.2 tap_M now_M tri_M rd_M kp_M bes_M ∧ ∀ j, (j < 64 ∨ 74 ≤ j) → E j = E0 j) := by
  refine MI.mk (by decide) rfl (Nat.le_of_ble_eq_true rfl) ?_
  intro p e s m args below meth c ls Q X hret hP hS hl
  have hl : lv_has ls 9 [(0, .ref (qa 64)), (1, .int p1), (2, .int p2), (3, .int p3), (4, .int p4), (5, .int p5)] := hl
  have hfr : ∀ j, (j < 64 ∨ 74 ≤ j) → E0 j = E0 j := fun _ _ => rfl
  rw [fX6_copy] at hf
  refine lv_iload_n X.1 X.2.1 dX6_copy_0 rfl (lv_at hl 1 rfl) ?_
  obtain ⟨r1, hr1, hf⟩ := bd_of hf
  refine x_rdSi X hP hS (index := 178) (n := 1) (As := [.int p1]) (ct_X6_isSheet  hr1) ggX6_copy_X6_isSheet (by decide +kernel) (by decide +kernel) (by decide +kernel) rfl (by decide +kernel) ⟨by decide, by decide⟩ rfl hl.1 rfl (Nat.le_of_ble_eq_true rfl) dX6_copy_1 (fun H locs hP hS => ?_)
  refine lv_if_eq (tgt := 14) X.1 X.2.1 dX6_copy_4 (by decide) (fun c2 => ?_) (fun c2 => ?_)
  · have hf := ifp hf c2
    refine lv_iconst (v := (-1)) X.1 X.2.1 dX6_copy_14 (by decide) ?_
    obtain rfl := Option.some.inj hf
    exact hret _ _ _ _ _ _ dX6_copy_15 rfl rfl (⟨hG_M, hfr⟩) hP hS
  · have hf := ifn hf c2
    refine lv_iload_n X.1 X.2.1 dX6_copy_7 rfl (lv_at hl 3 rfl) ?_
    obtain ⟨r3, hr3, hf⟩ := bd_of hf
    refine x_rdSi X hP hS (index := 178) (n := 1) (As := [.int p3]) (ct_X6_isSheet  hr3) ggX6_copy_X6_isSheet (by decide +kernel) (by decide +kernel) (by decide +kernel) rfl (by decide +kernel) ⟨by decide, by decide⟩ rfl hl.1 rfl (Nat.le_of_ble_eq_true rfl) dX6_copy_8 (fun H locs hP hS => ?_)
    refine lv_if_ne (tgt := 16) X.1 X.2.1 dX6_copy_11 (by decide) (fun c4 => ?_) (fun c4 => ?_)
    · have hf := ifn hf c4
      refine lv_aload_n X.1 X.2.1 dX6_copy_16 rfl (lv_at hl 0 rfl) ?_
      refine x_get X hP hG_M.1 (by omega) rfl in_X6_copy_X6 0 (by decide) (by decide +kernel) rfl rfl dX6_copy_17 ?_
      refine lv_iload_n X.1 X.2.1 dX6_copy_20 rfl (lv_at hl 1 rfl) ?_
      obtain ⟨hi5, hf⟩ := gin_of hf
      refine x_iald X hP hG_M.2.1 (by omega) hi5 dX6_copy_21 ?_
      refine lv_if_lt (tgt := 34) X.1 X.2.1 dX6_copy_22 (by decide) (fun c6 => ?_) (fun c6 => ?_)
      · have hf := ifp hf c6
        refine lv_bipush (v := (-11)) X.1 X.2.1 dX6_copy_34 (by decide) ?_
        obtain rfl := Option.some.inj hf
        exact hret _ _ _ _ _ _ dX6_copy_36 rfl rfl (⟨hG_M, hfr⟩) hP hS
      · have hf := ifn hf c6
        refine lv_aload_n X.1 X.2.1 dX6_copy_25 rfl (lv_at hl 0 rfl) ?_
        refine x_get X hP hG_M.1 (by omega) rfl in_X6_copy_X6 0 (by decide) (by decide +kernel) rfl rfl dX6_copy_26 ?_
        refine lv_iload_n X.1 X.2.1 dX6_copy_29 rfl (lv_at hl 3 rfl) ?_
        obtain ⟨hi7, hf⟩ := gin_of hf
        refine x_iald X hP hG_M.2.1 (by omega) hi7 dX6_copy_30 ?_
        refine lv_if_ge (tgt := 37) X.1 X.2.1 dX6_copy_31 (by decide) (fun c8 => ?_) (fun c8 => ?_)
        · have hf := ifp hf c8
          refine lv_aload_n X.1 X.2.1 dX6_copy_37 rfl (lv_at hl 0 rfl) ?_
          refine x_get X hP hG_M.1 (by omega) rfl in_X6_copy_X6 0 (by decide) (by decide +kernel) rfl rfl dX6_copy_38 ?_
          refine lv_iload_n X.1 X.2.1 dX6_copy_41 rfl (lv_at hl 1 rfl) ?_
          obtain ⟨hi9, hf⟩ := gin_of hf
          refine x_iald X hP hG_M.2.1 (by omega) hi9 dX6_copy_42 ?_
          refine lv_aload_n X.1 X.2.1 dX6_copy_43 rfl (lv_at hl 0 rfl) ?_
          refine x_get X hP hG_M.1 (by omega) rfl in_X6_copy_X6 0 (by decide) (by decide +kernel) rfl rfl dX6_copy_44 ?_
          refine lv_iload_n X.1 X.2.1 dX6_copy_47 rfl (lv_at hl 3 rfl) ?_
          obtain ⟨hi10, hf⟩ := gin_of hf
          refine x_iald X hP hG_M.2.1 (by omega) hi10 dX6_copy_48 ?_
          refine lv_icmp_eq (tgt := 55) X.1 X.2.1 dX6_copy_49 (by decide) (fun c11 => ?_) (fun c11 => ?_)
          · have hf := ifp hf c11
            refine lv_iload_n X.1 X.2.1 dX6_copy_55 rfl (lv_at hl 2 rfl) ?_
            refine lv_iload X.1 X.2.1 dX6_copy_56 (lv_at hl 5 rfl) ?_
            refine lv_aload_n X.1 X.2.1 dX6_copy_58 rfl (lv_at hl 0 rfl) ?_
            refine x_get X hP hG_M.1 (by omega) rfl in_X6_copy_X6 1 (by decide) (by decide +kernel) rfl rfl dX6_copy_59 ?_
            refine lv_iload_n X.1 X.2.1 dX6_copy_62 rfl (lv_at hl 1 rfl) ?_
            obtain ⟨hi12, hf⟩ := gin_of hf
            refine x_iald X hP hG_M.2.2.1 (by omega) hi12 dX6_copy_63 ?_
            obtain ⟨r13, hr13, hf⟩ := bd_of hf
            refine x_rdSi X hP hS (index := 175) (n := 3) (As := [.int p2, .int p5, .int (siz_M (Int32.toNatClampNeg p1))]) (ct_X6_isPart  hr13) ggX6_copy_X6_isPart (by decide +kernel) (by decide +kernel) (by decide +kernel) rfl (by decide +kernel) ⟨by decide, by decide⟩ rfl hl.1 rfl (Nat.le_of_ble_eq_true rfl) dX6_copy_64 (fun H locs hP hS => ?_)
            refine lv_if_eq (tgt := 86) X.1 X.2.1 dX6_copy_67 (by decide) (fun c14 => ?_) (fun c14 => ?_)
            · have hf := ifp hf c14
              refine lv_bipush (v := (-13)) X.1 X.2.1 dX6_copy_86 (by decide) ?_
              obtain rfl := Option.some.inj hf
              exact hret _ _ _ _ _ _ dX6_copy_88 rfl rfl (⟨hG_M, hfr⟩) hP hS
            · have hf := ifn hf c14
              refine lv_iload X.1 X.2.1 dX6_copy_70 (lv_at hl 4 rfl) ?_
              refine lv_iload X.1 X.2.1 dX6_copy_72 (lv_at hl 5 rfl) ?_
              refine lv_aload_n X.1 X.2.1 dX6_copy_74 rfl (lv_at hl 0 rfl) ?_
              refine x_get X hP hG_M.1 (by omega) rfl in_X6_copy_X6 1 (by decide) (by decide +kernel) rfl rfl dX6_copy_75 ?_
              refine lv_iload_n X.1 X.2.1 dX6_copy_78 rfl (lv_at hl 3 rfl) ?_
              obtain ⟨hi15, hf⟩ := gin_of hf
              refine x_iald X hP hG_M.2.2.1 (by omega) hi15 dX6_copy_79 ?_
              obtain ⟨r16, hr16, hf⟩ := bd_of hf
              refine x_rdSi X hP hS (index := 175) (n := 3) (As := [.int p4, .int p5, .int (siz_M (Int32.toNatClampNeg p3))]) (ct_X6_isPart  hr16) ggX6_copy_X6_isPart (by decide +kernel) (by decide +kernel) (by decide +kernel) rfl (by decide +kernel) ⟨by decide, by decide⟩ rfl hl.1 rfl (Nat.le_of_ble_eq_true rfl) dX6_copy_80 (fun H locs hP hS => ?_)
              refine lv_if_ne (tgt := 89) X.1 X.2.1 dX6_copy_83 (by decide) (fun c17 => ?_) (fun c17 => ?_)
              · have hf := ifn hf c17
                refine lv_iload_n X.1 X.2.1 dX6_copy_89 rfl (lv_at hl 1 rfl) ?_
                refine lv_iload_n X.1 X.2.1 dX6_copy_90 rfl (lv_at hl 3 rfl) ?_
                refine lv_icmp_ne (tgt := 104) X.1 X.2.1 dX6_copy_91 (by decide) (fun c18 => ?_) (fun c18 => ?_)
                · have hf := ifn hf c18
                  refine lv_iconst (v := 0) X.1 X.2.1 dX6_copy_104 (by decide) ?_
                  refine lv_istore (lv' := [(6, .int 0), (0, .ref (qa 64)), (1, .int p1), (2, .int p2), (3, .int p3), (4, .int p4), (5, .int p5)]) X.1 X.2.1 dX6_copy_105 hl (by decide) rfl (fun ls hl => ?_)
                  refine lv_iconst (v := 0) X.1 X.2.1 dX6_copy_107 (by decide) ?_
                  refine lv_istore (lv' := [(7, .int 0), (6, .int 0), (0, .ref (qa 64)), (1, .int p1), (2, .int p2), (3, .int p3), (4, .int p4), (5, .int p5)]) X.1 X.2.1 dX6_copy_108 hl (by decide) rfl (fun ls hl => ?_)
                  have lp19 : ∀ (n19 : Nat) (v7_19 : Int32) (itm_M_19 : Nat → Int64) (E : Nat → va_E) (H : Heap) (locs : List Loc) (ls : Array Slot), lp (bX6_copy_110 p1 p2 p3 p4 p5) n19 (v7_19, itm_M_19) = some R → va_P D vwCl (WD qa E) H → va_S (gA qa s.heap.size) s.heap H locs → Mo g qa E 64 ltr_M pos_M num_M isk_M bm_M bch_M lan_M siz_M itm_M_19 tap_M now_M tri_M rd_M kp_M bes_M → (∀ j, (j < 64 ∨ 74 ≤ j) → E j = E0 j) → lv_has ls 9 [(0, .ref (qa 64)), (1, .int p1), (2, .int p2), (3, .int p3), (4, .int p4), (5, .int p5), (6, .int 0), (7, .int v7_19)] → W p l e (rmf 2) s m args below meth c H locs 0 0 Q (F0 m 110 ls []) := by
                    intro n19
                    induction n19 with
                    | zero =>
                      intro v7_19 itm_M_19 E H locs ls hf
                      exact absurd hf (by intro h; cases h)
                    | succ n19 ih19 =>
                      intro v7_19 itm_M_19 E H locs ls hf hP hS hG_M hfr hl
                      have hf : bX6_copy_110 p1 p2 p3 p4 p5 (lp (bX6_copy_110 p1 p2 p3 p4 p5) n19) (v7_19, itm_M_19) = some R := hf
                      rw [bX6_copy_110] at hf
                      refine lv_iload X.1 X.2.1 dX6_copy_110 (lv_at hl 7 rfl) ?_
                      refine lv_iload X.1 X.2.1 dX6_copy_112 (lv_at hl 5 rfl) ?_
                      refine lv_icmp_ge (tgt := 171) X.1 X.2.1 dX6_copy_114 (by decide) (fun c20 => ?_) (fun c20 => ?_)
                      · have hf := ifp hf c20
                        refine lv_iload X.1 X.2.1 dX6_copy_171 (lv_at hl 5 rfl) ?_
                        obtain rfl := Option.some.inj hf
                        exact hret _ _ _ _ _ _ dX6_copy_173 rfl rfl (⟨hG_M, hfr⟩) hP hS
                      · have hf := ifn hf c20
                        refine lv_iload X.1 X.2.1 dX6_copy_117 (lv_at hl 6 rfl) ?_
                        refine lv_if_eq (tgt := 132) X.1 X.2.1 dX6_copy_119 (by decide) (fun _ => ?_) (fun q => absurd (by decide) q)
                        refine lv_iload X.1 X.2.1 dX6_copy_132 (lv_at hl 7 rfl) ?_
                        refine lv_istore (lv' := [(8, .int v7_19), (0, .ref (qa 64)), (1, .int p1), (2, .int p2), (3, .int p3), (4, .int p4), (5, .int p5), (6, .int 0), (7, .int v7_19)]) X.1 X.2.1 dX6_copy_134 hl (by decide) rfl (fun ls hl => ?_)
                        refine lv_aload_n X.1 X.2.1 dX6_copy_136 rfl (lv_at hl 1 rfl) ?_
                        refine x_get X hP hG_M.1 (by omega) rfl in_X6_copy_X6 2 (by decide) (by decide +kernel) rfl rfl dX6_copy_137 ?_
                        refine lv_bipush (v := 24) X.1 X.2.1 dX6_copy_140 (by decide) ?_
                        refine lv_iload_n X.1 X.2.1 dX6_copy_142 rfl (lv_at hl 4 rfl) ?_
                        refine lv_imul X.1 X.2.1 dX6_copy_143 ?_
                        refine lv_iload X.1 X.2.1 dX6_copy_144 (lv_at hl 5 rfl) ?_
                        refine lv_iadd X.1 X.2.1 dX6_copy_146 ?_
                        refine lv_iload X.1 X.2.1 dX6_copy_147 (lv_at hl 0 rfl) ?_
                        refine lv_iadd X.1 X.2.1 dX6_copy_149 ?_
                        refine lv_aload_n X.1 X.2.1 dX6_copy_150 rfl (lv_at hl 1 rfl) ?_
                        refine x_get X hP hG_M.1 (by omega) rfl in_X6_copy_X6 2 (by decide) (by decide +kernel) rfl rfl dX6_copy_151 ?_
                        refine lv_bipush (v := 24) X.1 X.2.1 dX6_copy_154 (by decide) ?_
                        refine lv_iload_n X.1 X.2.1 dX6_copy_156 rfl (lv_at hl 2 rfl) ?_
                        refine lv_imul X.1 X.2.1 dX6_copy_157 ?_
                        refine lv_iload_n X.1 X.2.1 dX6_copy_158 rfl (lv_at hl 3 rfl) ?_
                        refine lv_iadd X.1 X.2.1 dX6_copy_159 ?_
                        refine lv_iload X.1 X.2.1 dX6_copy_160 (lv_at hl 0 rfl) ?_
                        refine lv_iadd X.1 X.2.1 dX6_copy_162 ?_
                        obtain ⟨hi21, hf⟩ := gin_of hf
                        refine x_lald X hP hG_M.2.2.2.1 (by omega) hi21 dX6_copy_163 ?_
                        obtain ⟨hi22, hf⟩ := gin_of hf
                        refine x_last X hP hS hG_M.2.2.2.1 (by omega) hi22 dX6_copy_164 (fun E H locs h1 hk hP hS => ?_)
                        have hG_M := Mo_set_3 hG_M h1 hk
                        have hfr : ∀ j, (j < 64 ∨ 74 ≤ j) → E j = E0 j := fun j o0 => (hk j (by omega)).trans (hfr j o0)
                        obtain ⟨x23, ex23, hf⟩ := nm_of hf
                        refine lv_iinc (v := x23) (lv' := [(7, .int x23), (8, .int v7_19), (0, .ref (qa 64)), (1, .int p1), (2, .int p2), (3, .int p3), (4, .int p4), (5, .int p5), (6, .int 0)]) X.1 X.2.1 dX6_copy_165 hl (k := 8) rfl (by rw [ex23]; rfl) (by decide) rfl (fun ls hl => ?_)
                        refine lv_goto (tgt := 110) X.1 X.2.1 dX6_copy_168 (by decide) ?_
                        exact ih19 x23 (vp_updL itm_M_19 (Int32.toNatClampNeg (((24 * p3) + p4) + v7_19)) (itm_M_19 (Int32.toNatClampNeg (((24 * p1) + p2) + v7_19)))) _ _ _ _ hf hP hS hG_M hfr (lv_sub hl [2, 3, 4, 5, 6, 7, 8, 0] rfl)
                  exact lp19 FU 0 itm_M _ _ _ _ hf hP hS hG_M hfr (lv_sub hl [2, 3, 4, 5, 6, 7, 1, 0] rfl)
                · have hf := ifp hf c18
                  refine lv_iload X.1 X.2.1 dX6_copy_94 (lv_at hl 4 rfl) ?_
                  refine lv_iload_n X.1 X.2.1 dX6_copy_96 rfl (lv_at hl 2 rfl) ?_
                  refine lv_icmp_le (tgt := 104) X.1 X.2.1 dX6_copy_97 (by decide) (fun c24 => ?_) (fun c24 => ?_)
                  · have hf := ifp hf c24
                    refine lv_iconst (v := 0) X.1 X.2.1 dX6_copy_104 (by decide) ?_
                    refine lv_istore (lv' := [(6, .int 0), (0, .ref (qa 64)), (1, .int p1), (2, .int p2), (3, .int p3), (4, .int p4), (5, .int p5)]) X.1 X.2.1 dX6_copy_105 hl (by decide) rfl (fun ls hl => ?_)
                    refine lv_iconst (v := 0) X.1 X.2.1 dX6_copy_107 (by decide) ?_
                    refine lv_istore (lv' := [(7, .int 0), (6, .int 0), (0, .ref (qa 64)), (1, .int p1), (2, .int p2), (3, .int p3), (4, .int p4), (5, .int p5)]) X.1 X.2.1 dX6_copy_108 hl (by decide) rfl (fun ls hl => ?_)
                    have lp25 : ∀ (n25 : Nat) (v7_25 : Int32) (itm_M_25 : Nat → Int64) (E : Nat → va_E) (H : Heap) (locs : List Loc) (ls : Array Slot), lp (bX6_copy_110_1 p1 p2 p3 p4 p5) n25 (v7_25, itm_M_25) = some R → va_P D vwCl (WD qa E) H → va_S (gA qa s.heap.size) s.heap H locs → Mo g qa E 64 ltr_M pos_M num_M isk_M bm_M bch_M lan_M siz_M itm_M_25 tap_M now_M tri_M rd_M kp_M bes_M → (∀ j, (j < 64 ∨ 74 ≤ j) → E j = E0 j) → lv_has ls 9 [(0, .ref (qa 64)), (1, .int p1), (2, .int p2), (3, .int p3), (4, .int p4), (5, .int p5), (6, .int 0), (7, .int v7_25)] → W p l e (rmf 2) s m args below meth c H locs 0 0 Q (F0 m 110 ls []) := by
                      intro n25
                      induction n25 with
                      | zero =>
                        intro v7_25 itm_M_25 E H locs ls hf
                        exact absurd hf (by intro h; cases h)
                      | succ n25 ih25 =>
                        intro v7_25 itm_M_25 E H locs ls hf hP hS hG_M hfr hl
                        have hf : bX6_copy_110_1 p1 p2 p3 p4 p5 (lp (bX6_copy_110_1 p1 p2 p3 p4 p5) n25) (v7_25, itm_M_25) = some R := hf
                        rw [bX6_copy_110_1] at hf
                        refine lv_iload X.1 X.2.1 dX6_copy_110 (lv_at hl 7 rfl) ?_
                        refine lv_iload X.1 X.2.1 dX6_copy_112 (lv_at hl 5 rfl) ?_
                        refine lv_icmp_ge (tgt := 171) X.1 X.2.1 dX6_copy_114 (by decide) (fun c26 => ?_) (fun c26 => ?_)
                        · have hf := ifp hf c26
                          refine lv_iload X.1 X.2.1 dX6_copy_171 (lv_at hl 5 rfl) ?_
                          obtain rfl := Option.some.inj hf
                          exact hret _ _ _ _ _ _ dX6_copy_173 rfl rfl (⟨hG_M, hfr⟩) hP hS
                        · have hf := ifn hf c26
                          refine lv_iload X.1 X.2.1 dX6_copy_117 (lv_at hl 6 rfl) ?_
                          refine lv_if_eq (tgt := 132) X.1 X.2.1 dX6_copy_119 (by decide) (fun _ => ?_) (fun q => absurd (by decide) q)
                          refine lv_iload X.1 X.2.1 dX6_copy_132 (lv_at hl 7 rfl) ?_
                          refine lv_istore (lv' := [(8, .int v7_25), (0, .ref (qa 64)), (1, .int p1), (2, .int p2), (3, .int p3), (4, .int p4), (5, .int p5), (6, .int 0), (7, .int v7_25)]) X.1 X.2.1 dX6_copy_134 hl (by decide) rfl (fun ls hl => ?_)
                          refine lv_aload_n X.1 X.2.1 dX6_copy_136 rfl (lv_at hl 1 rfl) ?_
                          refine x_get X hP hG_M.1 (by omega) rfl in_X6_copy_X6 2 (by decide) (by decide +kernel) rfl rfl dX6_copy_137 ?_
                          refine lv_bipush (v := 24) X.1 X.2.1 dX6_copy_140 (by decide) ?_
                          refine lv_iload_n X.1 X.2.1 dX6_copy_142 rfl (lv_at hl 4 rfl) ?_
                          refine lv_imul X.1 X.2.1 dX6_copy_143 ?_
                          refine lv_iload X.1 X.2.1 dX6_copy_144 (lv_at hl 5 rfl) ?_
                          refine lv_iadd X.1 X.2.1 dX6_copy_146 ?_
                          refine lv_iload X.1 X.2.1 dX6_copy_147 (lv_at hl 0 rfl) ?_
                          refine lv_iadd X.1 X.2.1 dX6_copy_149 ?_
                          refine lv_aload_n X.1 X.2.1 dX6_copy_150 rfl (lv_at hl 1 rfl) ?_
                          refine x_get X hP hG_M.1 (by omega) rfl in_X6_copy_X6 2 (by decide) (by decide +kernel) rfl rfl dX6_copy_151 ?_
                          refine lv_bipush (v := 24) X.1 X.2.1 dX6_copy_154 (by decide) ?_
                          refine lv_iload_n X.1 X.2.1 dX6_copy_156 rfl (lv_at hl 2 rfl) ?_
                          refine lv_imul X.1 X.2.1 dX6_copy_157 ?_
                          refine lv_iload_n X.1 X.2.1 dX6_copy_158 rfl (lv_at hl 3 rfl) ?_
                          refine lv_iadd X.1 X.2.1 dX6_copy_159 ?_
                          refine lv_iload X.1 X.2.1 dX6_copy_160 (lv_at hl 0 rfl) ?_
                          refine lv_iadd X.1 X.2.1 dX6_copy_162 ?_
                          obtain ⟨hi27, hf⟩ := gin_of hf
                          refine x_lald X hP hG_M.2.2.2.1 (by omega) hi27 dX6_copy_163 ?_
                          obtain ⟨hi28, hf⟩ := gin_of hf
                          refine x_last X hP hS hG_M.2.2.2.1 (by omega) hi28 dX6_copy_164 (fun E H locs h1 hk hP hS => ?_)
                          have hG_M := Mo_set_3 hG_M h1 hk
                          have hfr : ∀ j, (j < 64 ∨ 74 ≤ j) → E j = E0 j := fun j o0 => (hk j (by omega)).trans (hfr j o0)
                          obtain ⟨x29, ex29, hf⟩ := nm_of hf
                          refine lv_iinc (v := x29) (lv' := [(7, .int x29), (8, .int v7_25), (0, .ref (qa 64)), (1, .int p1), (2, .int p2), (3, .int p3), (4, .int p4), (5, .int p5), (6, .int 0)]) X.1 X.2.1 dX6_copy_165 hl (k := 8) rfl (by rw [ex29]; rfl) (by decide) rfl (fun ls hl => ?_)
                          refine lv_goto (tgt := 110) X.1 X.2.1 dX6_copy_168 (by decide) ?_
                          exact ih25 x29 (vp_updL itm_M_25 (Int32.toNatClampNeg (((24 * p3) + p4) + v7_25)) (itm_M_25 (Int32.toNatClampNeg (((24 * p1) + p2) + v7_25)))) _ _ _ _ hf hP hS hG_M hfr (lv_sub hl [2, 3, 4, 5, 6, 7, 8, 0] rfl)
                    exact lp25 FU 0 itm_M _ _ _ _ hf hP hS hG_M hfr (lv_sub hl [2, 3, 4, 5, 6, 7, 1, 0] rfl)
                  · have hf := ifn hf c24
                    refine lv_iconst (v := 1) X.1 X.2.1 dX6_copy_100 (by decide) ?_
                    refine lv_goto (tgt := 105) X.1 X.2.1 dX6_copy_101 (by decide) ?_
                    refine lv_istore (lv' := [(6, .int 1), (0, .ref (qa 64)), (1, .int p1), (2, .int p2), (3, .int p3), (4, .int p4), (5, .int p5)]) X.1 X.2.1 dX6_copy_105 hl (by decide) rfl (fun ls hl => ?_)
                    refine lv_iconst (v := 0) X.1 X.2.1 dX6_copy_107 (by decide) ?_
                    refine lv_istore (lv' := [(7, .int 0), (6, .int 1), (0, .ref (qa 64)), (1, .int p1), (2, .int p2), (3, .int p3), (4, .int p4), (5, .int p5)]) X.1 X.2.1 dX6_copy_108 hl (by decide) rfl (fun ls hl => ?_)
                    have lp30 : ∀ (n30 : Nat) (v7_30 : Int32) (itm_M_30 : Nat → Int64) (E : Nat → va_E) (H : Heap) (locs : List Loc) (ls : Array Slot), lp (bX6_copy_110_2 p1 p2 p3 p4 p5) n30 (v7_30, itm_M_30) = some R → va_P D vwCl (WD qa E) H → va_S (gA qa s.heap.size) s.heap H locs → Mo g qa E 64 ltr_M pos_M num_M isk_M bm_M bch_M lan_M siz_M itm_M_30 tap_M now_M tri_M rd_M kp_M bes_M → (∀ j, (j < 64 ∨ 74 ≤ j) → E j = E0 j) → lv_has ls 9 [(0, .ref (qa 64)), (1, .int p1), (2, .int p2), (3, .int p3), (4, .int p4), (5, .int p5), (6, .int 1), (7, .int v7_30)] → W p l e (rmf 2) s m args below meth c H locs 0 0 Q (F0 m 110 ls []) := by
                      intro n30
                      induction n30 with
                      | zero =>
                        intro v7_30 itm_M_30 E H locs ls hf
                        exact absurd hf (by intro h; cases h)
                      | succ n30 ih30 =>
                        intro v7_30 itm_M_30 E H locs ls hf hP hS hG_M hfr hl
                        have hf : bX6_copy_110_2 p1 p2 p3 p4 p5 (lp (bX6_copy_110_2 p1 p2 p3 p4 p5) n30) (v7_30, itm_M_30) = some R := hf
                        rw [bX6_copy_110_2] at hf
                        refine lv_iload X.1 X.2.1 dX6_copy_110 (lv_at hl 7 rfl) ?_
                        refine lv_iload X.1 X.2.1 dX6_copy_112 (lv_at hl 5 rfl) ?_
                        refine lv_icmp_ge (tgt := 171) X.1 X.2.1 dX6_copy_114 (by decide) (fun c31 => ?_) (fun c31 => ?_)
                        · have hf := ifp hf c31
                          refine lv_iload X.1 X.2.1 dX6_copy_171 (lv_at hl 5 rfl) ?_
                          obtain rfl := Option.some.inj hf
                          exact hret _ _ _ _ _ _ dX6_copy_173 rfl rfl (⟨hG_M, hfr⟩) hP hS
                        · have hf := ifn hf c31
                          refine lv_iload X.1 X.2.1 dX6_copy_117 (lv_at hl 6 rfl) ?_
                          refine lv_if_eq (tgt := 132) X.1 X.2.1 dX6_copy_119 (by decide) (fun q => absurd q (by decide)) (fun _ => ?_)
                          refine lv_iload X.1 X.2.1 dX6_copy_122 (lv_at hl 5 rfl) ?_
                          refine lv_iconst (v := 1) X.1 X.2.1 dX6_copy_124 (by decide) ?_
                          refine lv_isub X.1 X.2.1 dX6_copy_125 ?_
                          refine lv_iload X.1 X.2.1 dX6_copy_126 (lv_at hl 7 rfl) ?_
                          refine lv_isub X.1 X.2.1 dX6_copy_128 ?_
                          refine lv_goto (tgt := 134) X.1 X.2.1 dX6_copy_129 (by decide) ?_
                          obtain ⟨x32, ex32, hf⟩ := nm_of hf
                          refine lv_top_as ex32 ?_
                          refine lv_istore (lv' := [(8, .int x32), (0, .ref (qa 64)), (1, .int p1), (2, .int p2), (3, .int p3), (4, .int p4), (5, .int p5), (6, .int 1), (7, .int v7_30)]) X.1 X.2.1 dX6_copy_134 hl (by decide) rfl (fun ls hl => ?_)
                          refine lv_aload_n X.1 X.2.1 dX6_copy_136 rfl (lv_at hl 1 rfl) ?_
                          refine x_get X hP hG_M.1 (by omega) rfl in_X6_copy_X6 2 (by decide) (by decide +kernel) rfl rfl dX6_copy_137 ?_
                          refine lv_bipush (v := 24) X.1 X.2.1 dX6_copy_140 (by decide) ?_
                          refine lv_iload_n X.1 X.2.1 dX6_copy_142 rfl (lv_at hl 4 rfl) ?_
                          refine lv_imul X.1 X.2.1 dX6_copy_143 ?_
                          refine lv_iload X.1 X.2.1 dX6_copy_144 (lv_at hl 5 rfl) ?_
                          refine lv_iadd X.1 X.2.1 dX6_copy_146 ?_
                          refine lv_iload X.1 X.2.1 dX6_copy_147 (lv_at hl 0 rfl) ?_
                          refine lv_iadd X.1 X.2.1 dX6_copy_149 ?_
                          refine lv_aload_n X.1 X.2.1 dX6_copy_150 rfl (lv_at hl 1 rfl) ?_
                          refine x_get X hP hG_M.1 (by omega) rfl in_X6_copy_X6 2 (by decide) (by decide +kernel) rfl rfl dX6_copy_151 ?_
                          refine lv_bipush (v := 24) X.1 X.2.1 dX6_copy_154 (by decide) ?_
                          refine lv_iload_n X.1 X.2.1 dX6_copy_156 rfl (lv_at hl 2 rfl) ?_
                          refine lv_imul X.1 X.2.1 dX6_copy_157 ?_
                          refine lv_iload_n X.1 X.2.1 dX6_copy_158 rfl (lv_at hl 3 rfl) ?_
                          refine lv_iadd X.1 X.2.1 dX6_copy_159 ?_
                          refine lv_iload X.1 X.2.1 dX6_copy_160 (lv_at hl 0 rfl) ?_
                          refine lv_iadd X.1 X.2.1 dX6_copy_162 ?_
                          obtain ⟨hi33, hf⟩ := gin_of hf
                          refine x_lald X hP hG_M.2.2.2.1 (by omega) hi33 dX6_copy_163 ?_
                          obtain ⟨hi34, hf⟩ := gin_of hf
                          refine x_last X hP hS hG_M.2.2.2.1 (by omega) hi34 dX6_copy_164 (fun E H locs h1 hk hP hS => ?_)
                          have hG_M := Mo_set_3 hG_M h1 hk
                          have hfr : ∀ j, (j < 64 ∨ 74 ≤ j) → E j = E0 j := fun j o0 => (hk j (by omega)).trans (hfr j o0)
                          obtain ⟨x35, ex35, hf⟩ := nm_of hf
                          refine lv_iinc (v := x35) (lv' := [(7, .int x35), (8, .int x32), (0, .ref (qa 64)), (1, .int p1), (2, .int p2), (3, .int p3), (4, .int p4), (5, .int p5), (6, .int 1)]) X.1 X.2.1 dX6_copy_165 hl (k := 8) rfl (by rw [ex35]; rfl) (by decide) rfl (fun ls hl => ?_)
                          refine lv_goto (tgt := 110) X.1 X.2.1 dX6_copy_168 (by decide) ?_
                          exact ih30 x35 (vp_updL itm_M_30 (Int32.toNatClampNeg (((24 * p3) + p4) + x32)) (itm_M_30 (Int32.toNatClampNeg (((24 * p1) + p2) + x32)))) _ _ _ _ hf hP hS hG_M hfr (lv_sub hl [2, 3, 4, 5, 6, 7, 8, 0] rfl)
                    exact lp30 FU 0 itm_M _ _ _ _ hf hP hS hG_M hfr (lv_sub hl [2, 3, 4, 5, 6, 7, 1, 0] rfl)
              · have hf := ifp hf c17
                refine lv_bipush (v := (-13)) X.1 X.2.1 dX6_copy_86 (by decide) ?_
                obtain rfl := Option.some.inj hf
                exact hret _ _ _ _ _ _ dX6_copy_88 rfl rfl (⟨hG_M, hfr⟩) hP hS
          · have hf := ifn hf c11
            refine lv_bipush (v := (-12)) X.1 X.2.1 dX6_copy_52 (by decide) ?_
            obtain rfl := Option.some.inj hf
            exact hret _ _ _ _ _ _ dX6_copy_54 rfl rfl (⟨hG_M, hfr⟩) hP hS
        · have hf := ifn hf c8
          refine lv_bipush (v := (-11)) X.1 X.2.1 dX6_copy_34 (by decide) ?_
          obtain rfl := Option.some.inj hf
          exact hret _ _ _ _ _ _ dX6_copy_36 rfl rfl (⟨hG_M, hfr⟩) hP hS
    · have hf := ifp hf c4
      refine lv_iconst (v := (-1)) X.1 X.2.1 dX6_copy_14 (by decide) ?_
      obtain rfl := Option.some.inj hf
      exact hret _ _ _ _ _ _ dX6_copy_15 rfl rfl (⟨hG_M, hfr⟩) hP hS
def bX6_strengths_4 (now_M : Nat → Int32) (K1 : ((Int32 × Int32)) → Option Int32) : ((Int32 × Int32)) → Option Int32
  | (v1_1, v2_1) => gin 19 191 (if (now_M (Int32.toNatClampNeg 19)) ≤ v2_1 then (some v1_1) else (gin (2 + v2_1) 191 (nm (v1_1 + (now_M (Int32.toNatClampNeg (2 + v2_1)))) (fun x5 => nm (v2_1 + 1) (fun x6 => K1 (x5, x6))))))
def fX6_strengths   (now_M : Nat → Int32) : Option Int32 := lp (bX6_strengths_4 now_M) FU (0, 0)
theorem in_X6_strengths_X6 : ∀ w ∈ wsX60, w ∈ wsX6_strengths := by decide +kernel
set_option maxHeartbeats 4000000 in
set_option maxRecDepth 100000 in
theorem ct_X6_strengths {l : Launch} {D : va_G} {g : Nat → ClassId} {qa : Nat → Nat} {E0 : Nat → va_E} {ltr_M : Int32} {pos_M : Int32} {num_M : Int32} {isk_M : Int32} {bm_M : Int32} {bch_M : Int32} {lan_M : Nat → Int32} {siz_M : Nat → Int32} {itm_M : Nat → Int64} {tap_M : Nat → Int32} {now_M : Nat → Int32} {tri_M : Nat → Int32} {rd_M : Nat → Int32} {kp_M : Nat → Int32} {bes_M : Nat → Int32} (hG_M : Mo g qa E0 64 ltr_M pos_M num_M isk_M bm_M bch_M lan_M siz_M itm_M tap_M now_M tri_M rd_M kp_M bes_M) {R : Int32} (hf : fX6_strengths now_M = some R) : MI l yX6_strengths wsX6_strengths 0 D g qa E0 [.ref (qa 64)] R (fun E => E = E0) := by
  refine MI.mk (by decide) rfl (Nat.le_of_ble_eq_true rfl) ?_
  intro p e s m args below meth c ls Q X hret hP hS hl
  have hl : lv_has ls 3 [(0, .ref (qa 64))] := hl
  rw [fX6_strengths] at hf
  refine lv_iconst (v := 0) X.1 X.2.1 dX6_strengths_0 (by decide) ?_
  refine lv_istore_n (lv' := [(1, .int 0), (0, .ref (qa 64))]) X.1 X.2.1 dX6_strengths_1 rfl hl (by decide) rfl (fun ls hl => ?_)
  refine lv_iconst (v := 0) X.1 X.2.1 dX6_strengths_2 (by decide) ?_
  refine lv_istore_n (lv' := [(2, .int 0), (1, .int 0), (0, .ref (qa 64))]) X.1 X.2.1 dX6_strengths_3 rfl hl (by decide) rfl (fun ls hl => ?_)
  have lp1 : ∀ (n1 : Nat) (v1_1 : Int32) (v2_1 : Int32) (H : Heap) (locs : List Loc) (ls : Array Slot), lp (bX6_strengths_4 now_M) n1 (v1_1, v2_1) = some R → va_P D vwCl (WD qa E0) H → va_S (gA qa s.heap.size) s.heap H locs → lv_has ls 3 [(0, .ref (qa 64)), (1, .int v1_1), (2, .int v2_1)] → W p l e (rmf 0) s m args below meth c H locs 0 0 Q (F0 m 4 ls []) := by
    intro n1
    induction n1 with
    | zero =>
      intro v1_1 v2_1 H locs ls hf
      exact absurd hf (by intro h; cases h)
    | succ n1 ih1 =>
      intro v1_1 v2_1 H locs ls hf hP hS hl
      have hf : bX6_strengths_4 now_M (lp (bX6_strengths_4 now_M) n1) (v1_1, v2_1) = some R := hf
      rw [bX6_strengths_4] at hf
      refine lv_iload_n X.1 X.2.1 dX6_strengths_4 rfl (lv_at hl 2 rfl) ?_
      refine lv_aload_n X.1 X.2.1 dX6_strengths_5 rfl (lv_at hl 0 rfl) ?_
      refine x_get X hP hG_M.1 (by omega) rfl in_X6_strengths_X6 7 (by decide) (by decide +kernel) rfl rfl dX6_strengths_6 ?_
      refine lv_bipush (v := 19) X.1 X.2.1 dX6_strengths_9 (by decide) ?_
      obtain ⟨hi2, hf⟩ := gin_of hf
      refine x_iald X hP hG_M.2.2.2.2.2.1 (by omega) hi2 dX6_strengths_11 ?_
      refine lv_icmp_ge (tgt := 32) X.1 X.2.1 dX6_strengths_12 (by decide) (fun c3 => ?_) (fun c3 => ?_)
      · have hf := ifp hf c3
        refine lv_iload_n X.1 X.2.1 dX6_strengths_32 rfl (lv_at hl 1 rfl) ?_
        obtain rfl := Option.some.inj hf
        exact hret _ _ _ _ _ _ dX6_strengths_33 rfl rfl (rfl) hP hS
      · have hf := ifn hf c3
        refine lv_iload_n X.1 X.2.1 dX6_strengths_15 rfl (lv_at hl 1 rfl) ?_
        refine lv_aload_n X.1 X.2.1 dX6_strengths_16 rfl (lv_at hl 0 rfl) ?_
        refine x_get X hP hG_M.1 (by omega) rfl in_X6_strengths_X6 7 (by decide) (by decide +kernel) rfl rfl dX6_strengths_17 ?_
        refine lv_iconst (v := 2) X.1 X.2.1 dX6_strengths_20 (by decide) ?_
        refine lv_iload_n X.1 X.2.1 dX6_strengths_21 rfl (lv_at hl 2 rfl) ?_
        refine lv_iadd X.1 X.2.1 dX6_strengths_22 ?_
        obtain ⟨hi4, hf⟩ := gin_of hf
        refine x_iald X hP hG_M.2.2.2.2.2.1 (by omega) hi4 dX6_strengths_23 ?_
        refine lv_iadd X.1 X.2.1 dX6_strengths_24 ?_
        obtain ⟨x5, ex5, hf⟩ := nm_of hf
        refine lv_top_as ex5 ?_
        refine lv_istore_n (lv' := [(1, .int x5), (0, .ref (qa 64)), (2, .int v2_1)]) X.1 X.2.1 dX6_strengths_25 rfl hl (by decide) rfl (fun ls hl => ?_)
        obtain ⟨x6, ex6, hf⟩ := nm_of hf
        refine lv_iinc (v := x6) (lv' := [(2, .int x6), (1, .int x5), (0, .ref (qa 64))]) X.1 X.2.1 dX6_strengths_26 hl (k := 2) rfl (by rw [ex6]; rfl) (by decide) rfl (fun ls hl => ?_)
        refine lv_goto (tgt := 4) X.1 X.2.1 dX6_strengths_29 (by decide) ?_
        exact ih1 x5 x6 _ _ _ hf hP hS (lv_sub hl [2, 1, 0] rfl)
  exact lp1 FU 0 0 _ _ _ hf hP hS (lv_sub hl [2, 1, 0] rfl)
def bX6_loads_4 (arr_s : Nat → Int32) (K1 : ((Int32 × Int32)) → Option Int32) : ((Int32 × Int32)) → Option Int32
  | (v1_1, v2_1) => gin 19 191 (if (arr_s (Int32.toNatClampNeg 19)) ≤ v2_1 then (some v1_1) else ((fX6_load v2_1 arr_s).bind (fun r4 => nm (v1_1 + r4) (fun x5 => nm (v2_1 + 1) (fun x6 => K1 (x5, x6))))))
def fX6_loads   (arr_s : Nat → Int32) : Option Int32 := lp (bX6_loads_4 arr_s) FU (0, 0)
set_option maxHeartbeats 4000000 in
set_option maxRecDepth 100000 in
theorem ct_X6_loads {l : Launch} {D : va_G} {g : Nat → ClassId} {qa : Nat → Nat} {E0 : Nat → va_E} {k : Nat} {arr_s : Nat → Int32} (hb_s : k < 74) (hG_s : E0 k = .inl (g 0, 191, .inl arr_s)) {R : Int32} (hf : fX6_loads arr_s = some R) : MI l yX6_loads wsX6_loads 3 D g qa E0 [.ref (qa k)] R (fun E => E = E0) := by
  refine MI.mk (by decide) rfl (Nat.le_of_ble_eq_true rfl) ?_
  intro p e s m args below meth c ls Q X hret hP hS hl
  have hl : lv_has ls 3 [(0, .ref (qa k))] := hl
  rw [fX6_loads] at hf
  refine lv_iconst (v := 0) X.1 X.2.1 dX6_loads_0 (by decide) ?_
  refine lv_istore_n (lv' := [(1, .int 0), (0, .ref (qa k))]) X.1 X.2.1 dX6_loads_1 rfl hl (by decide) rfl (fun ls hl => ?_)
  refine lv_iconst (v := 0) X.1 X.2.1 dX6_loads_2 (by decide) ?_
  refine lv_istore_n (lv' := [(2, .int 0), (1, .int 0), (0, .ref (qa k))]) X.1 X.2.1 dX6_loads_3 rfl hl (by decide) rfl (fun ls hl => ?_)
  have lp1 : ∀ (n1 : Nat) (v1_1 : Int32) (v2_1 : Int32) (H : Heap) (locs : List Loc) (ls : Array Slot), lp (bX6_loads_4 arr_s) n1 (v1_1, v2_1) = some R → va_P D vwCl (WD qa E0) H → va_S (gA qa s.heap.size) s.heap H locs → lv_has ls 3 [(0, .ref (qa k)), (1, .int v1_1), (2, .int v2_1)] → W p l e (rmf 3) s m args below meth c H locs 0 0 Q (F0 m 4 ls []) := by
    intro n1
    induction n1 with
    | zero =>
      intro v1_1 v2_1 H locs ls hf
      exact absurd hf (by intro h; cases h)
    | succ n1 ih1 =>
      intro v1_1 v2_1 H locs ls hf hP hS hl
      have hf : bX6_loads_4 arr_s (lp (bX6_loads_4 arr_s) n1) (v1_1, v2_1) = some R := hf
      rw [bX6_loads_4] at hf
      refine lv_iload_n X.1 X.2.1 dX6_loads_4 rfl (lv_at hl 2 rfl) ?_
      refine lv_aload_n X.1 X.2.1 dX6_loads_5 rfl (lv_at hl 0 rfl) ?_
      refine lv_bipush (v := 19) X.1 X.2.1 dX6_loads_6 (by decide) ?_
      obtain ⟨hi2, hf⟩ := gin_of hf
      refine x_iald X hP hG_s (by omega) hi2 dX6_loads_8 ?_
      refine lv_icmp_ge (tgt := 26) X.1 X.2.1 dX6_loads_9 (by decide) (fun c3 => ?_) (fun c3 => ?_)
      · have hf := ifp hf c3
        refine lv_iload_n X.1 X.2.1 dX6_loads_26 rfl (lv_at hl 1 rfl) ?_
        obtain rfl := Option.some.inj hf
        exact hret _ _ _ _ _ _ dX6_loads_27 rfl rfl (rfl) hP hS
      · have hf := ifn hf c3
        refine lv_iload_n X.1 X.2.1 dX6_loads_12 rfl (lv_at hl 1 rfl) ?_
        refine lv_aload_n X.1 X.2.1 dX6_loads_13 rfl (lv_at hl 0 rfl) ?_
        refine lv_iload_n X.1 X.2.1 dX6_loads_14 rfl (lv_at hl 2 rfl) ?_
        obtain ⟨r4, hr4, hf⟩ := bd_of hf
        refine x_rdSi X hP hS (index := 64) (n := 2) (As := [.ref (qa k), .int v2_1]) (ct_X6_load (by omega) hG_s hr4) ggX6_loads_X6_load (by decide +kernel) (by decide +kernel) (by decide +kernel) rfl (by decide +kernel) ⟨by decide, by decide⟩ rfl hl.1 rfl (Nat.le_of_ble_eq_true rfl) dX6_loads_15 (fun H locs hP hS => ?_)
        refine lv_iadd X.1 X.2.1 dX6_loads_18 ?_
        obtain ⟨x5, ex5, hf⟩ := nm_of hf
        refine lv_top_as ex5 ?_
        refine lv_istore_n (lv' := [(1, .int x5), (0, .ref (qa k)), (2, .int v2_1)]) X.1 X.2.1 dX6_loads_19 rfl hl (by decide) rfl (fun ls hl => ?_)
        obtain ⟨x6, ex6, hf⟩ := nm_of hf
        refine lv_iinc (v := x6) (lv' := [(2, .int x6), (1, .int x5), (0, .ref (qa k))]) X.1 X.2.1 dX6_loads_20 hl (k := 2) rfl (by rw [ex6]; rfl) (by decide) rfl (fun ls hl => ?_)
        refine lv_goto (tgt := 4) X.1 X.2.1 dX6_loads_23 (by decide) ?_
        exact ih1 x5 x6 _ _ _ hf hP hS (lv_sub hl [2, 1, 0] rfl)
  exact lp1 FU 0 0 _ _ _ hf hP hS (lv_sub hl [2, 1, 0] rfl)
def fX6_count (p1 : Int32)  (now_M : Nat → Int32) : Option Int32 := if p1 = 0 then (gin 19 191 (some (now_M (Int32.toNatClampNeg 19)))) else (if p1 = 1 then (gin 25 191 (some (now_M (Int32.toNatClampNeg 25)))) else (if p1 = 2 then (gin 0 191 (some (now_M (Int32.toNatClampNeg 0)))) else (if p1 = 3 then ((fX6_bentOnes now_M).bind (fun r8 => some r8)) else (if p1 = 4 then ((fX6_wornBy (-4) now_M).bind (fun r10 => some r10)) else (if p1 = 5 then ((fX6_strengths now_M).bind (fun r12 => some r12)) else (if p1 = 6 then ((fX6_loads now_M).bind (fun r14 => some r14)) else (if p1 = 7 then (gin 38 191 (some (now_M (Int32.toNatClampNeg 38)))) else (some (-1)))))))))
theorem in_X6_count_X6 : ∀ w ∈ wsX60, w ∈ wsX6_count := by decide +kernel
set_option maxHeartbeats 4000000 in
set_option maxRecDepth 100000 in
theorem ct_X6_count {l : Launch} {D : va_G} {g : Nat → ClassId} {qa : Nat → Nat} {E0 : Nat → va_E} {p1 : Int32} {ltr_M : Int32} {pos_M : Int32} {num_M : Int32} {isk_M : Int32} {bm_M : Int32} {bch_M : Int32} {lan_M : Nat → Int32} {siz_M : Nat → Int32} {itm_M : Nat → Int64} {tap_M : Nat → Int32} {now_M : Nat → Int32} {tri_M : Nat → Int32} {rd_M : Nat → Int32} {kp_M : Nat → Int32} {bes_M : Nat → Int32} (hG_M : Mo g qa E0 64 ltr_M pos_M num_M isk_M bm_M bch_M lan_M siz_M itm_M tap_M now_M tri_M rd_M kp_M bes_M) {R : Int32} (hf : fX6_count p1 now_M = some R) : MI l yX6_count wsX6_count 5 D g qa E0 [.ref (qa 64), .int p1] R (fun E => E = E0) := by
  refine MI.mk (by decide) rfl (Nat.le_of_ble_eq_true rfl) ?_
  intro p e s m args below meth c ls Q X hret hP hS hl
  have hl : lv_has ls 2 [(0, .ref (qa 64)), (1, .int p1)] := hl
  rw [fX6_count] at hf
  refine lv_iload_n X.1 X.2.1 dX6_count_0 rfl (lv_at hl 1 rfl) ?_
  by_cases w1 : p1 = 0
  · have hf := ifp hf w1
    refine lv_tableIn (tgt := 48) X.1 X.2.1 dX6_count_1 (by rw [w1]; decide) (by rw [w1]; decide) (off := 47) (by rw [w1]; decide) (by decide) ?_
    refine lv_aload_n X.1 X.2.1 dX6_count_48 rfl (lv_at hl 0 rfl) ?_
    refine x_get X hP hG_M.1 (by omega) rfl in_X6_count_X6 7 (by decide) (by decide +kernel) rfl rfl dX6_count_49 ?_
    refine lv_bipush (v := 19) X.1 X.2.1 dX6_count_52 (by decide) ?_
    obtain ⟨hi2, hf⟩ := gin_of hf
    refine x_iald X hP hG_M.2.2.2.2.2.1 (by omega) hi2 dX6_count_54 ?_
    obtain rfl := Option.some.inj hf
    exact hret _ _ _ _ _ _ dX6_count_55 rfl rfl (rfl) hP hS
  have hf := ifn hf w1
  by_cases w3 : p1 = 1
  · have hf := ifp hf w3
    refine lv_tableIn (tgt := 56) X.1 X.2.1 dX6_count_1 (by rw [w3]; decide) (by rw [w3]; decide) (off := 55) (by rw [w3]; decide) (by decide) ?_
    refine lv_aload_n X.1 X.2.1 dX6_count_56 rfl (lv_at hl 0 rfl) ?_
    refine x_get X hP hG_M.1 (by omega) rfl in_X6_count_X6 7 (by decide) (by decide +kernel) rfl rfl dX6_count_57 ?_
    refine lv_bipush (v := 25) X.1 X.2.1 dX6_count_60 (by decide) ?_
    obtain ⟨hi4, hf⟩ := gin_of hf
    refine x_iald X hP hG_M.2.2.2.2.2.1 (by omega) hi4 dX6_count_62 ?_
    obtain rfl := Option.some.inj hf
    exact hret _ _ _ _ _ _ dX6_count_63 rfl rfl (rfl) hP hS
  have hf := ifn hf w3
  by_cases w5 : p1 = 2
  · have hf := ifp hf w5
    refine lv_tableIn (tgt := 64) X.1 X.2.1 dX6_count_1 (by rw [w5]; decide) (by rw [w5]; decide) (off := 63) (by rw [w5]; decide) (by decide) ?_
    refine lv_aload_n X.1 X.2.1 dX6_count_64 rfl (lv_at hl 0 rfl) ?_
    refine x_get X hP hG_M.1 (by omega) rfl in_X6_count_X6 7 (by decide) (by decide +kernel) rfl rfl dX6_count_65 ?_
    refine lv_iconst (v := 0) X.1 X.2.1 dX6_count_68 (by decide) ?_
    obtain ⟨hi6, hf⟩ := gin_of hf
    refine x_iald X hP hG_M.2.2.2.2.2.1 (by omega) hi6 dX6_count_69 ?_
    obtain rfl := Option.some.inj hf
    exact hret _ _ _ _ _ _ dX6_count_70 rfl rfl (rfl) hP hS
  have hf := ifn hf w5
  by_cases w7 : p1 = 3
  · have hf := ifp hf w7
    refine lv_tableIn (tgt := 71) X.1 X.2.1 dX6_count_1 (by rw [w7]; decide) (by rw [w7]; decide) (off := 70) (by rw [w7]; decide) (by decide) ?_
    refine lv_aload_n X.1 X.2.1 dX6_count_71 rfl (lv_at hl 0 rfl) ?_
    refine x_get X hP hG_M.1 (by omega) rfl in_X6_count_X6 7 (by decide) (by decide +kernel) rfl rfl dX6_count_72 ?_
    obtain ⟨r8, hr8, hf⟩ := bd_of hf
    refine x_rdSi X hP hS (index := 118) (n := 1) (As := [.ref (qa (64 + 5))]) (ct_X6_bentOnes (by omega) hG_M.2.2.2.2.2.1 hr8) ggX6_count_X6_bentOnes (by decide +kernel) (by decide +kernel) (by decide +kernel) rfl (by decide +kernel) ⟨by decide, by decide⟩ rfl hl.1 rfl (Nat.le_of_ble_eq_true rfl) dX6_count_75 (fun H locs hP hS => ?_)
    obtain rfl := Option.some.inj hf
    exact hret _ _ _ _ _ _ dX6_count_78 rfl rfl (rfl) hP hS
  have hf := ifn hf w7
  by_cases w9 : p1 = 4
  · have hf := ifp hf w9
    refine lv_tableIn (tgt := 79) X.1 X.2.1 dX6_count_1 (by rw [w9]; decide) (by rw [w9]; decide) (off := 78) (by rw [w9]; decide) (by decide) ?_
    refine lv_aload_n X.1 X.2.1 dX6_count_79 rfl (lv_at hl 0 rfl) ?_
    refine x_get X hP hG_M.1 (by omega) rfl in_X6_count_X6 7 (by decide) (by decide +kernel) rfl rfl dX6_count_80 ?_
    refine lv_bipush (v := (-4)) X.1 X.2.1 dX6_count_83 (by decide) ?_
    obtain ⟨r10, hr10, hf⟩ := bd_of hf
    refine x_rdSi X hP hS (index := 54) (n := 2) (As := [.ref (qa (64 + 5)), .int (-4)]) (ct_X6_wornBy (by omega) hG_M.2.2.2.2.2.1 hr10) ggX6_count_X6_wornBy (by decide +kernel) (by decide +kernel) (by decide +kernel) rfl (by decide +kernel) ⟨by decide, by decide⟩ rfl hl.1 rfl (Nat.le_of_ble_eq_true rfl) dX6_count_85 (fun H locs hP hS => ?_)
    obtain rfl := Option.some.inj hf
    exact hret _ _ _ _ _ _ dX6_count_88 rfl rfl (rfl) hP hS
  have hf := ifn hf w9
  by_cases w11 : p1 = 5
  · have hf := ifp hf w11
    refine lv_tableIn (tgt := 89) X.1 X.2.1 dX6_count_1 (by rw [w11]; decide) (by rw [w11]; decide) (off := 88) (by rw [w11]; decide) (by decide) ?_
    refine lv_aload_n X.1 X.2.1 dX6_count_89 rfl (lv_at hl 0 rfl) ?_
    obtain ⟨r12, hr12, hf⟩ := bd_of hf
    refine x_rdVi X hP hS hG_M.1 (by omega) rfl (n := 0) (As := []) (ct_X6_strengths hG_M hr12) gX6_count_X6_strengths rfl (by decide +kernel) ⟨by decide, by decide⟩ rfl hl.1 rfl (Nat.le_of_ble_eq_true rfl) dX6_count_90 (fun H locs hP hS => ?_)
    obtain rfl := Option.some.inj hf
    exact hret _ _ _ _ _ _ dX6_count_93 rfl rfl (rfl) hP hS
  have hf := ifn hf w11
  by_cases w13 : p1 = 6
  · have hf := ifp hf w13
    refine lv_tableIn (tgt := 94) X.1 X.2.1 dX6_count_1 (by rw [w13]; decide) (by rw [w13]; decide) (off := 93) (by rw [w13]; decide) (by decide) ?_
    refine lv_aload_n X.1 X.2.1 dX6_count_94 rfl (lv_at hl 0 rfl) ?_
    refine x_get X hP hG_M.1 (by omega) rfl in_X6_count_X6 7 (by decide) (by decide +kernel) rfl rfl dX6_count_95 ?_
    obtain ⟨r14, hr14, hf⟩ := bd_of hf
    refine x_rdSi X hP hS (index := 125) (n := 1) (As := [.ref (qa (64 + 5))]) (ct_X6_loads (by omega) hG_M.2.2.2.2.2.1 hr14) ggX6_count_X6_loads (by decide +kernel) (by decide +kernel) (by decide +kernel) rfl (by decide +kernel) ⟨by decide, by decide⟩ rfl hl.1 rfl (Nat.le_of_ble_eq_true rfl) dX6_count_98 (fun H locs hP hS => ?_)
    obtain rfl := Option.some.inj hf
    exact hret _ _ _ _ _ _ dX6_count_101 rfl rfl (rfl) hP hS
  have hf := ifn hf w13
  by_cases w15 : p1 = 7
  · have hf := ifp hf w15
    refine lv_tableIn (tgt := 102) X.1 X.2.1 dX6_count_1 (by rw [w15]; decide) (by rw [w15]; decide) (off := 101) (by rw [w15]; decide) (by decide) ?_
    refine lv_aload_n X.1 X.2.1 dX6_count_102 rfl (lv_at hl 0 rfl) ?_
    refine x_get X hP hG_M.1 (by omega) rfl in_X6_count_X6 7 (by decide) (by decide +kernel) rfl rfl dX6_count_103 ?_
    refine lv_bipush (v := 38) X.1 X.2.1 dX6_count_106 (by decide) ?_
    obtain ⟨hi16, hf⟩ := gin_of hf
    refine x_iald X hP hG_M.2.2.2.2.2.1 (by omega) hi16 dX6_count_108 ?_
    obtain rfl := Option.some.inj hf
    exact hret _ _ _ _ _ _ dX6_count_109 rfl rfl (rfl) hP hS
  have hf := ifn hf w15
  refine lv_tableOut (tgt := 110) X.1 X.2.1 dX6_count_1 (by have := i_ne 0 (0) (by decide) w1; have := i_ne 1 (1) (by decide) w3; have := i_ne 2 (2) (by decide) w5; have := i_ne 3 (3) (by decide) w7; have := i_ne 4 (4) (by decide) w9; have := i_ne 5 (5) (by decide) w11; have := i_ne 6 (6) (by decide) w13; have := i_ne 7 (7) (by decide) w15; omega) (by decide) ?_
  refine lv_iconst (v := (-1)) X.1 X.2.1 dX6_count_110 (by decide) ?_
  obtain rfl := Option.some.inj hf
  exact hret _ _ _ _ _ _ dX6_count_111 rfl rfl (rfl) hP hS
def fX6_cutTo (p1 : Int32) (p2 : Int64)   : Option Int64 := if p1 = 0 then (some (Int32.toInt64 ((Int32.toInt8 (Int64.toInt32 p2)).toInt32))) else (if p1 = 1 then (some (Int32.toInt64 ((Int32.toInt16 (Int64.toInt32 p2)).toInt32))) else (if p1 = 2 then (some (Int32.toInt64 (Int64.toInt32 p2))) else (some p2)))
set_option maxHeartbeats 4000000 in
set_option maxRecDepth 100000 in
theorem ct_X6_cutTo {l : Launch} {D : va_G} {g : Nat → ClassId} {qa : Nat → Nat} {E0 : Nat → va_E} {p1 : Int32} {p2 : Int64} {R : Int64} (hf : fX6_cutTo p1 p2 = some R) : ML l yX6_cutTo wsX6_cutTo 0 D g qa E0 [.int p1, .long p2] R (fun E => E = E0) := by
  refine ML.mk (by decide) rfl (Nat.le_of_ble_eq_true rfl) ?_
  intro p e s m args below meth c ls Q X hret hP hS hl
  have hl : lv_has ls 3 [(0, .int p1), (1, .long p2)] := hl
  rw [fX6_cutTo] at hf
  refine lv_iload_n X.1 X.2.1 dX6_cutTo_0 rfl (lv_at hl 0 rfl) ?_
  refine lv_if_ne (tgt := 11) X.1 X.2.1 dX6_cutTo_1 (by decide) (fun c1 => ?_) (fun c1 => ?_)
  · have hf := ifn hf c1
    refine lv_iload_n X.1 X.2.1 dX6_cutTo_11 rfl (lv_at hl 0 rfl) ?_
    refine lv_iconst (v := 1) X.1 X.2.1 dX6_cutTo_12 (by decide) ?_
    refine lv_icmp_ne (tgt := 23) X.1 X.2.1 dX6_cutTo_13 (by decide) (fun c2 => ?_) (fun c2 => ?_)
    · have hf := ifn hf c2
      refine lv_iload_n X.1 X.2.1 dX6_cutTo_23 rfl (lv_at hl 0 rfl) ?_
      refine lv_iconst (v := 2) X.1 X.2.1 dX6_cutTo_24 (by decide) ?_
      refine lv_icmp_ne (tgt := 34) X.1 X.2.1 dX6_cutTo_25 (by decide) (fun c3 => ?_) (fun c3 => ?_)
      · have hf := ifn hf c3
        refine lv_lload_n X.1 X.2.1 dX6_cutTo_34 rfl (lv_at hl 1 rfl) ?_
        obtain rfl := Option.some.inj hf
        exact hret _ _ _ _ _ _ dX6_cutTo_35 rfl (rfl) hP hS
      · have hf := ifp hf c3
        refine lv_lload_n X.1 X.2.1 dX6_cutTo_28 rfl (lv_at hl 1 rfl) ?_
        refine lv_l2i X.1 X.2.1 dX6_cutTo_29 rfl ?_
        refine lv_i2l X.1 X.2.1 dX6_cutTo_30 rfl ?_
        refine lv_goto (tgt := 35) X.1 X.2.1 dX6_cutTo_31 (by decide) ?_
        obtain rfl := Option.some.inj hf
        exact hret _ _ _ _ _ _ dX6_cutTo_35 rfl (rfl) hP hS
    · have hf := ifp hf c2
      refine lv_lload_n X.1 X.2.1 dX6_cutTo_16 rfl (lv_at hl 1 rfl) ?_
      refine lv_l2i X.1 X.2.1 dX6_cutTo_17 rfl ?_
      refine lv_i2s X.1 X.2.1 dX6_cutTo_18 rfl ?_
      refine lv_i2l X.1 X.2.1 dX6_cutTo_19 rfl ?_
      refine lv_goto (tgt := 35) X.1 X.2.1 dX6_cutTo_20 (by decide) ?_
      obtain rfl := Option.some.inj hf
      exact hret _ _ _ _ _ _ dX6_cutTo_35 rfl (rfl) hP hS
  · have hf := ifp hf c1
    refine lv_lload_n X.1 X.2.1 dX6_cutTo_4 rfl (lv_at hl 1 rfl) ?_
    refine lv_l2i X.1 X.2.1 dX6_cutTo_5 rfl ?_
    refine lv_i2b X.1 X.2.1 dX6_cutTo_6 rfl ?_
    refine lv_i2l X.1 X.2.1 dX6_cutTo_7 rfl ?_
    refine lv_goto (tgt := 35) X.1 X.2.1 dX6_cutTo_8 (by decide) ?_
    obtain rfl := Option.some.inj hf
    exact hret _ _ _ _ _ _ dX6_cutTo_35 rfl (rfl) hP hS
def bX6_bring_s_3 (p2 : Int32) (p4 : Int32) (p5 : Int32) (K1 : ((Int32 × (Nat → Int32))) → Option ((Nat → Int32))) : ((Int32 × (Nat → Int32))) → Option ((Nat → Int32))
  | (v5_1, arr_s_1) => if p5 ≤ v5_1 then (some arr_s_1) else (gin (p2 + v5_1) 191 (gin (p4 + v5_1) 191 (nm (v5_1 + 1) (fun x5 => K1 (x5, upd arr_s_1 (Int32.toNatClampNeg (p4 + v5_1)) (arr_s_1 (Int32.toNatClampNeg (p2 + v5_1))))))))
def fX6_bring_s (p2 : Int32) (p4 : Int32) (p5 : Int32)  (arr_s : Nat → Int32) : Option ((Nat → Int32)) := lp (bX6_bring_s_3 p2 p4 p5) FU (0, arr_s)
set_option maxHeartbeats 4000000 in
set_option maxRecDepth 100000 in
theorem ct_X6_bring_s {l : Launch} {D : va_G} {g : Nat → ClassId} {qa : Nat → Nat} {E0 : Nat → va_E} {k : Nat} {p2 : Int32} {p4 : Int32} {p5 : Int32} {arr_s : Nat → Int32} (hb_s : k < 74) (hG_s : E0 k = .inl (g 0, 191, .inl arr_s)) {R : ((Nat → Int32))} (hf : fX6_bring_s p2 p4 p5 arr_s = some R) : MV l yX6_bring wsX6_bring 0 D g qa E0 [.ref (qa k), .int p2, .ref (qa k), .int p4, .int p5] (fun E => E k = .inl (g 0, 191, .inl R) ∧ ∀ j, j ≠ k → E j = E0 j) := by
  refine MV.mk (by decide) rfl (Nat.le_of_ble_eq_true rfl) ?_
  intro p e s m args below meth c ls Q X hret hP hS hl
  have hl : lv_has ls 6 [(0, .ref (qa k)), (1, .int p2), (2, .ref (qa k)), (3, .int p4), (4, .int p5)] := hl
  have hfr : ∀ j, j ≠ k → E0 j = E0 j := fun _ _ => rfl
  rw [fX6_bring_s] at hf
  refine lv_iconst (v := 0) X.1 X.2.1 dX6_bring_0 (by decide) ?_
  refine lv_istore (lv' := [(5, .int 0), (0, .ref (qa k)), (1, .int p2), (2, .ref (qa k)), (3, .int p4), (4, .int p5)]) X.1 X.2.1 dX6_bring_1 hl (by decide) rfl (fun ls hl => ?_)
  have lp1 : ∀ (n1 : Nat) (v5_1 : Int32) (arr_s_1 : Nat → Int32) (E : Nat → va_E) (H : Heap) (locs : List Loc) (ls : Array Slot), lp (bX6_bring_s_3 p2 p4 p5) n1 (v5_1, arr_s_1) = some R → va_P D vwCl (WD qa E) H → va_S (gA qa s.heap.size) s.heap H locs → E k = .inl (g 0, 191, .inl arr_s_1) → (∀ j, j ≠ k → E j = E0 j) → lv_has ls 6 [(0, .ref (qa k)), (1, .int p2), (2, .ref (qa k)), (3, .int p4), (4, .int p5), (5, .int v5_1)] → W p l e (rmf 0) s m args below meth c H locs 0 0 Q (F0 m 3 ls []) := by
    intro n1
    induction n1 with
    | zero =>
      intro v5_1 arr_s_1 E H locs ls hf
      exact absurd hf (by intro h; cases h)
    | succ n1 ih1 =>
      intro v5_1 arr_s_1 E H locs ls hf hP hS hG_s hfr hl
      have hf : bX6_bring_s_3 p2 p4 p5 (lp (bX6_bring_s_3 p2 p4 p5) n1) (v5_1, arr_s_1) = some R := hf
      rw [bX6_bring_s_3] at hf
      refine lv_iload X.1 X.2.1 dX6_bring_3 (lv_at hl 5 rfl) ?_
      refine lv_iload X.1 X.2.1 dX6_bring_5 (lv_at hl 4 rfl) ?_
      refine lv_icmp_ge (tgt := 28) X.1 X.2.1 dX6_bring_7 (by decide) (fun c2 => ?_) (fun c2 => ?_)
      · have hf := ifp hf c2
        obtain rfl := Option.some.inj hf
        exact hret _ _ _ _ _ dX6_bring_28 (⟨hG_s, hfr⟩) hP hS
      · have hf := ifn hf c2
        refine lv_aload_n X.1 X.2.1 dX6_bring_10 rfl (lv_at hl 2 rfl) ?_
        refine lv_iload_n X.1 X.2.1 dX6_bring_11 rfl (lv_at hl 3 rfl) ?_
        refine lv_iload X.1 X.2.1 dX6_bring_12 (lv_at hl 5 rfl) ?_
        refine lv_iadd X.1 X.2.1 dX6_bring_14 ?_
        refine lv_aload_n X.1 X.2.1 dX6_bring_15 rfl (lv_at hl 0 rfl) ?_
        refine lv_iload_n X.1 X.2.1 dX6_bring_16 rfl (lv_at hl 1 rfl) ?_
        refine lv_iload X.1 X.2.1 dX6_bring_17 (lv_at hl 5 rfl) ?_
        refine lv_iadd X.1 X.2.1 dX6_bring_19 ?_
        obtain ⟨hi3, hf⟩ := gin_of hf
        refine x_iald X hP hG_s (by omega) hi3 dX6_bring_20 ?_
        obtain ⟨hi4, hf⟩ := gin_of hf
        refine x_iast X hP hS hG_s (by omega) hi4 dX6_bring_21 (fun E H locs h1 hk hP hS => ?_)
        have hG_s := h1
        have hfr : ∀ j, j ≠ k → E j = E0 j := fun j o0 => (hk j (by omega)).trans (hfr j o0)
        obtain ⟨x5, ex5, hf⟩ := nm_of hf
        refine lv_iinc (v := x5) (lv' := [(5, .int x5), (0, .ref (qa k)), (1, .int p2), (2, .ref (qa k)), (3, .int p4), (4, .int p5)]) X.1 X.2.1 dX6_bring_22 hl (k := 5) rfl (by rw [ex5]; rfl) (by decide) rfl (fun ls hl => ?_)
        refine lv_goto (tgt := 3) X.1 X.2.1 dX6_bring_25 (by decide) ?_
        exact ih1 x5 (upd arr_s_1 (Int32.toNatClampNeg (p4 + v5_1)) (arr_s_1 (Int32.toNatClampNeg (p2 + v5_1)))) _ _ _ _ hf hP hS hG_s hfr (lv_sub hl [1, 2, 3, 4, 5, 0] rfl)
  exact lp1 FU 0 arr_s _ _ _ _ hf hP hS hG_s hfr (lv_sub hl [1, 2, 3, 4, 5, 0] rfl)
def fX6_note   (now_M : Nat → Int32) : Option ((Nat → Int32)) := gin 38 191 (if (now_M (Int32.toNatClampNeg 38)) = 8 then ((fX6_bring_s 58 39 133 now_M).bind (fun r7 => gin 38 191 (gin 38 191 (gin 38 191 ((fX6_bring_s 0 (39 + (19 * ((upd r7 (Int32.toNatClampNeg 38) ((r7 (Int32.toNatClampNeg 38)) - 1)) (Int32.toNatClampNeg 38)))) 19 (upd r7 (Int32.toNatClampNeg 38) ((r7 (Int32.toNatClampNeg 38)) - 1))).bind (fun r11 => gin 38 191 (gin 38 191 (some (upd r11 (Int32.toNatClampNeg 38) ((r11 (Int32.toNatClampNeg 38)) + 1)))))))))) else (gin 38 191 ((fX6_bring_s 0 (39 + (19 * (now_M (Int32.toNatClampNeg 38)))) 19 now_M).bind (fun r4 => gin 38 191 (gin 38 191 (some (upd r4 (Int32.toNatClampNeg 38) ((r4 (Int32.toNatClampNeg 38)) + 1))))))))
theorem in_X6_note_X6 : ∀ w ∈ wsX60, w ∈ wsX6_note := by decide +kernel
set_option maxHeartbeats 4000000 in
set_option maxRecDepth 100000 in
theorem ct_X6_note {l : Launch} {D : va_G} {g : Nat → ClassId} {qa : Nat → Nat} {E0 : Nat → va_E} {ltr_M : Int32} {pos_M : Int32} {num_M : Int32} {isk_M : Int32} {bm_M : Int32} {bch_M : Int32} {lan_M : Nat → Int32} {siz_M : Nat → Int32} {itm_M : Nat → Int64} {tap_M : Nat → Int32} {now_M : Nat → Int32} {tri_M : Nat → Int32} {rd_M : Nat → Int32} {kp_M : Nat → Int32} {bes_M : Nat → Int32} (hG_M : Mo g qa E0 64 ltr_M pos_M num_M isk_M bm_M bch_M lan_M siz_M itm_M tap_M now_M tri_M rd_M kp_M bes_M) {R : ((Nat → Int32))} (hf : fX6_note now_M = some R) : MV l yX6_note wsX6_note 1 D g qa E0 [.ref (qa 64)] (fun E => Mo g qa E 64 ltr_M pos_M num_M isk_M bm_M bch_M lan_M siz_M itm_M tap_M R tri_M rd_M kp_M bes_M ∧ ∀ j, (j < 64 ∨ 74 ≤ j) → E j = E0 j) := by
  refine MV.mk (by decide) rfl (Nat.le_of_ble_eq_true rfl) ?_
  intro p e s m args below meth c ls Q X hret hP hS hl
  have hl : lv_has ls 1 [(0, .ref (qa 64))] := hl
  have hfr : ∀ j, (j < 64 ∨ 74 ≤ j) → E0 j = E0 j := fun _ _ => rfl
  rw [fX6_note] at hf
  refine lv_aload_n X.1 X.2.1 dX6_note_0 rfl (lv_at hl 0 rfl) ?_
  refine x_get X hP hG_M.1 (by omega) rfl in_X6_note_X6 7 (by decide) (by decide +kernel) rfl rfl dX6_note_1 ?_
  refine lv_bipush (v := 38) X.1 X.2.1 dX6_note_4 (by decide) ?_
  obtain ⟨hi1, hf⟩ := gin_of hf
  refine x_iald X hP hG_M.2.2.2.2.2.1 (by omega) hi1 dX6_note_6 ?_
  refine lv_bipush (v := 8) X.1 X.2.1 dX6_note_7 (by decide) ?_
  refine lv_icmp_ne (tgt := 41) X.1 X.2.1 dX6_note_9 (by decide) (fun c2 => ?_) (fun c2 => ?_)
  · have hf := ifn hf c2
    refine lv_aload_n X.1 X.2.1 dX6_note_41 rfl (lv_at hl 0 rfl) ?_
    refine x_get X hP hG_M.1 (by omega) rfl in_X6_note_X6 7 (by decide) (by decide +kernel) rfl rfl dX6_note_42 ?_
    refine lv_iconst (v := 0) X.1 X.2.1 dX6_note_45 (by decide) ?_
    refine lv_aload_n X.1 X.2.1 dX6_note_46 rfl (lv_at hl 0 rfl) ?_
    refine x_get X hP hG_M.1 (by omega) rfl in_X6_note_X6 7 (by decide) (by decide +kernel) rfl rfl dX6_note_47 ?_
    refine lv_bipush (v := 39) X.1 X.2.1 dX6_note_50 (by decide) ?_
    refine lv_bipush (v := 19) X.1 X.2.1 dX6_note_52 (by decide) ?_
    refine lv_aload_n X.1 X.2.1 dX6_note_54 rfl (lv_at hl 0 rfl) ?_
    refine x_get X hP hG_M.1 (by omega) rfl in_X6_note_X6 7 (by decide) (by decide +kernel) rfl rfl dX6_note_55 ?_
    refine lv_bipush (v := 38) X.1 X.2.1 dX6_note_58 (by decide) ?_
    obtain ⟨hi3, hf⟩ := gin_of hf
    refine x_iald X hP hG_M.2.2.2.2.2.1 (by omega) hi3 dX6_note_60 ?_
    refine lv_imul X.1 X.2.1 dX6_note_61 ?_
    refine lv_iadd X.1 X.2.1 dX6_note_62 ?_
    refine lv_bipush (v := 19) X.1 X.2.1 dX6_note_63 (by decide) ?_
    obtain ⟨r4, hr4, hf⟩ := bd_of hf
    refine x_callSv X hP hS (index := 114) (n := 5) (As := [.ref (qa (64 + 5)), .int 0, .ref (qa (64 + 5)), .int (39 + (19 * (now_M (Int32.toNatClampNeg 38)))), .int 19]) (ct_X6_bring_s (by omega) hG_M.2.2.2.2.2.1 hr4) ggX6_note_X6_bring (by decide +kernel) (by decide +kernel) (by decide +kernel) rfl (by decide +kernel) ⟨by decide, by decide⟩ rfl hl.1 rfl (Nat.le_of_ble_eq_true rfl) dX6_note_65 (fun E H locs hp hP hS => ?_)
    obtain ⟨hW_s, hk⟩ := hp
    have hG_M := Mo_set_5 hG_M hW_s hk
    have hfr : ∀ j, (j < 64 ∨ 74 ≤ j) → E j = E0 j := fun j o0 => (hk j (by omega)).trans (hfr j o0)
    refine lv_aload_n X.1 X.2.1 dX6_note_68 rfl (lv_at hl 0 rfl) ?_
    refine x_get X hP hG_M.1 (by omega) rfl in_X6_note_X6 7 (by decide) (by decide +kernel) rfl rfl dX6_note_69 ?_
    refine lv_bipush (v := 38) X.1 X.2.1 dX6_note_72 (by decide) ?_
    refine lv_dup2_11 X.1 X.2.1 dX6_note_74 rfl rfl ?_
    obtain ⟨hi5, hf⟩ := gin_of hf
    refine x_iald X hP hG_M.2.2.2.2.2.1 (by omega) hi5 dX6_note_75 ?_
    refine lv_iconst (v := 1) X.1 X.2.1 dX6_note_76 (by decide) ?_
    refine lv_iadd X.1 X.2.1 dX6_note_77 ?_
    obtain ⟨hi6, hf⟩ := gin_of hf
    refine x_iast X hP hS hG_M.2.2.2.2.2.1 (by omega) hi6 dX6_note_78 (fun E H locs h1 hk hP hS => ?_)
    have hG_M := Mo_set_5 hG_M h1 hk
    have hfr : ∀ j, (j < 64 ∨ 74 ≤ j) → E j = E0 j := fun j o0 => (hk j (by omega)).trans (hfr j o0)
    obtain rfl := Option.some.inj hf
    exact hret _ _ _ _ _ dX6_note_79 (⟨hG_M, hfr⟩) hP hS
  · have hf := ifp hf c2
    refine lv_aload_n X.1 X.2.1 dX6_note_12 rfl (lv_at hl 0 rfl) ?_
    refine x_get X hP hG_M.1 (by omega) rfl in_X6_note_X6 7 (by decide) (by decide +kernel) rfl rfl dX6_note_13 ?_
    refine lv_bipush (v := 58) X.1 X.2.1 dX6_note_16 (by decide) ?_
    refine lv_aload_n X.1 X.2.1 dX6_note_18 rfl (lv_at hl 0 rfl) ?_
    refine x_get X hP hG_M.1 (by omega) rfl in_X6_note_X6 7 (by decide) (by decide +kernel) rfl rfl dX6_note_19 ?_
    refine lv_bipush (v := 39) X.1 X.2.1 dX6_note_22 (by decide) ?_
    refine lv_sipush (v := 133) X.1 X.2.1 dX6_note_24 (by decide) ?_
    obtain ⟨r7, hr7, hf⟩ := bd_of hf
    refine x_callSv X hP hS (index := 114) (n := 5) (As := [.ref (qa (64 + 5)), .int 58, .ref (qa (64 + 5)), .int 39, .int 133]) (ct_X6_bring_s (by omega) hG_M.2.2.2.2.2.1 hr7) ggX6_note_X6_bring (by decide +kernel) (by decide +kernel) (by decide +kernel) rfl (by decide +kernel) ⟨by decide, by decide⟩ rfl hl.1 rfl (Nat.le_of_ble_eq_true rfl) dX6_note_27 (fun E H locs hp hP hS => ?_)
    obtain ⟨hW_s, hk⟩ := hp
    have hG_M := Mo_set_5 hG_M hW_s hk
    have hfr : ∀ j, (j < 64 ∨ 74 ≤ j) → E j = E0 j := fun j o0 => (hk j (by omega)).trans (hfr j o0)
    refine lv_aload_n X.1 X.2.1 dX6_note_30 rfl (lv_at hl 0 rfl) ?_
    refine x_get X hP hG_M.1 (by omega) rfl in_X6_note_X6 7 (by decide) (by decide +kernel) rfl rfl dX6_note_31 ?_
    refine lv_bipush (v := 38) X.1 X.2.1 dX6_note_34 (by decide) ?_
    refine lv_dup2_11 X.1 X.2.1 dX6_note_36 rfl rfl ?_
    obtain ⟨hi8, hf⟩ := gin_of hf
    refine x_iald X hP hG_M.2.2.2.2.2.1 (by omega) hi8 dX6_note_37 ?_
    refine lv_iconst (v := 1) X.1 X.2.1 dX6_note_38 (by decide) ?_
    refine lv_isub X.1 X.2.1 dX6_note_39 ?_
    obtain ⟨hi9, hf⟩ := gin_of hf
    refine x_iast X hP hS hG_M.2.2.2.2.2.1 (by omega) hi9 dX6_note_40 (fun E H locs h1 hk hP hS => ?_)
    have hG_M := Mo_set_5 hG_M h1 hk
    have hfr : ∀ j, (j < 64 ∨ 74 ≤ j) → E j = E0 j := fun j o0 => (hk j (by omega)).trans (hfr j o0)
    refine lv_aload_n X.1 X.2.1 dX6_note_41 rfl (lv_at hl 0 rfl) ?_
    refine x_get X hP hG_M.1 (by omega) rfl in_X6_note_X6 7 (by decide) (by decide +kernel) rfl rfl dX6_note_42 ?_
    refine lv_iconst (v := 0) X.1 X.2.1 dX6_note_45 (by decide) ?_
    refine lv_aload_n X.1 X.2.1 dX6_note_46 rfl (lv_at hl 0 rfl) ?_
    refine x_get X hP hG_M.1 (by omega) rfl in_X6_note_X6 7 (by decide) (by decide +kernel) rfl rfl dX6_note_47 ?_
    refine lv_bipush (v := 39) X.1 X.2.1 dX6_note_50 (by decide) ?_
    refine lv_bipush (v := 19) X.1 X.2.1 dX6_note_52 (by decide) ?_
    refine lv_aload_n X.1 X.2.1 dX6_note_54 rfl (lv_at hl 0 rfl) ?_
    refine x_get X hP hG_M.1 (by omega) rfl in_X6_note_X6 7 (by decide) (by decide +kernel) rfl rfl dX6_note_55 ?_
    refine lv_bipush (v := 38) X.1 X.2.1 dX6_note_58 (by decide) ?_
    obtain ⟨hi10, hf⟩ := gin_of hf
    refine x_iald X hP hG_M.2.2.2.2.2.1 (by omega) hi10 dX6_note_60 ?_
    refine lv_imul X.1 X.2.1 dX6_note_61 ?_
    refine lv_iadd X.1 X.2.1 dX6_note_62 ?_
    refine lv_bipush (v := 19) X.1 X.2.1 dX6_note_63 (by decide) ?_
    obtain ⟨r11, hr11, hf⟩ := bd_of hf
    refine x_callSv X hP hS (index := 114) (n := 5) (As := [.ref (qa (64 + 5)), .int 0, .ref (qa (64 + 5)), .int (39 + (19 * ((upd r7 (Int32.toNatClampNeg 38) ((r7 (Int32.toNatClampNeg 38)) - 1)) (Int32.toNatClampNeg 38)))), .int 19]) (ct_X6_bring_s (by omega) hG_M.2.2.2.2.2.1 hr11) ggX6_note_X6_bring (by decide +kernel) (by decide +kernel) (by decide +kernel) rfl (by decide +kernel) ⟨by decide, by decide⟩ rfl hl.1 rfl (Nat.le_of_ble_eq_true rfl) dX6_note_65 (fun E H locs hp hP hS => ?_)
    obtain ⟨hW_s, hk⟩ := hp
    have hG_M := Mo_set_5 hG_M hW_s hk
    have hfr : ∀ j, (j < 64 ∨ 74 ≤ j) → E j = E0 j := fun j o0 => (hk j (by omega)).trans (hfr j o0)
    refine lv_aload_n X.1 X.2.1 dX6_note_68 rfl (lv_at hl 0 rfl) ?_
    refine x_get X hP hG_M.1 (by omega) rfl in_X6_note_X6 7 (by decide) (by decide +kernel) rfl rfl dX6_note_69 ?_
    refine lv_bipush (v := 38) X.1 X.2.1 dX6_note_72 (by decide) ?_
    refine lv_dup2_11 X.1 X.2.1 dX6_note_74 rfl rfl ?_
    obtain ⟨hi12, hf⟩ := gin_of hf
    refine x_iald X hP hG_M.2.2.2.2.2.1 (by omega) hi12 dX6_note_75 ?_
    refine lv_iconst (v := 1) X.1 X.2.1 dX6_note_76 (by decide) ?_
    refine lv_iadd X.1 X.2.1 dX6_note_77 ?_
    obtain ⟨hi13, hf⟩ := gin_of hf
    refine x_iast X hP hS hG_M.2.2.2.2.2.1 (by omega) hi13 dX6_note_78 (fun E H locs h1 hk hP hS => ?_)
    have hG_M := Mo_set_5 hG_M h1 hk
    have hfr : ∀ j, (j < 64 ∨ 74 ≤ j) → E j = E0 j := fun j o0 => (hk j (by omega)).trans (hfr j o0)
    obtain rfl := Option.some.inj hf
    exact hret _ _ _ _ _ dX6_note_79 (⟨hG_M, hfr⟩) hP hS
def bX6_days_31 (p1 : Int32) (K5 : ((Int32 × (Nat → Int32))) → Option (Int32 × (Nat → Int32))) : ((Int32 × (Nat → Int32))) → Option (Int32 × (Nat → Int32))
  | (v2_5, now_M_5) => if p1 ≤ v2_5 then ((fX6_bentOnes now_M_5).bind (fun r7 => some (r7, now_M_5))) else ((fX6_note now_M_5).bind (fun r8 => (fX6_dayIn r8).bind (fun r9 => nm (v2_5 + 1) (fun x10 => K5 (x10, r9)))))
def fX6_days (p1 : Int32)  (now_M : Nat → Int32) : Option (Int32 × (Nat → Int32)) := (fX6_in p1 1 40).bind (fun r1 => if r1 = 0 then (some ((-1), now_M)) else (gin 0 191 (if ((now_M (Int32.toNatClampNeg 0)) + p1) ≤ 9999 then (lp (bX6_days_31 p1) FU (0, now_M)) else (some ((-3), now_M)))))
theorem in_X6_days_X6 : ∀ w ∈ wsX60, w ∈ wsX6_days := by decide +kernel
set_option maxHeartbeats 4000000 in
set_option maxRecDepth 100000 in
theorem ct_X6_days {l : Launch} {D : va_G} {g : Nat → ClassId} {qa : Nat → Nat} {E0 : Nat → va_E} {p1 : Int32} {ltr_M : Int32} {pos_M : Int32} {num_M : Int32} {isk_M : Int32} {bm_M : Int32} {bch_M : Int32} {lan_M : Nat → Int32} {siz_M : Nat → Int32} {itm_M : Nat → Int64} {tap_M : Nat → Int32} {now_M : Nat → Int32} {tri_M : Nat → Int32} {rd_M : Nat → Int32} {kp_M : Nat → Int32} {bes_M : Nat → Int32} (hG_M : Mo g qa E0 64 ltr_M pos_M num_M isk_M bm_M bch_M lan_M siz_M itm_M tap_M now_M tri_M rd_M kp_M bes_M) {R : (Int32 × (Nat → Int32))} (hf : fX6_days p1 now_M = some R) : MI l yX6_days wsX6_days 6 D g qa E0 [.ref (qa 64), .int p1] R.1 (fun E => Mo g qa E 64 ltr_M pos_M num_M isk_M bm_M bch_M lan_M siz_M itm_M tap_M R.2 tri_M rd_M kp_M bes_M ∧ ∀ j, (j < 64 ∨ 74 ≤ j) → E j = E0 j) := by
  refine MI.mk (by decide) rfl (Nat.le_of_ble_eq_true rfl) ?_
  intro p e s m args below meth c ls Q X hret hP hS hl
  have hl : lv_has ls 3 [(0, .ref (qa 64)), (1, .int p1)] := hl
  have hfr : ∀ j, (j < 64 ∨ 74 ≤ j) → E0 j = E0 j := fun _ _ => rfl
  rw [fX6_days] at hf
  refine lv_iload_n X.1 X.2.1 dX6_days_0 rfl (lv_at hl 1 rfl) ?_
  refine lv_iconst (v := 1) X.1 X.2.1 dX6_days_1 (by decide) ?_
  refine lv_bipush (v := 40) X.1 X.2.1 dX6_days_2 (by decide) ?_
  obtain ⟨r1, hr1, hf⟩ := bd_of hf
  refine x_rdSi X hP hS (index := 38) (n := 3) (As := [.int p1, .int 1, .int 40]) (ct_X6_in  hr1) ggX6_days_X6_in (by decide +kernel) (by decide +kernel) (by decide +kernel) rfl (by decide +kernel) ⟨by decide, by decide⟩ rfl hl.1 rfl (Nat.le_of_ble_eq_true rfl) dX6_days_4 (fun H locs hP hS => ?_)
  refine lv_if_ne (tgt := 12) X.1 X.2.1 dX6_days_7 (by decide) (fun c2 => ?_) (fun c2 => ?_)
  · have hf := ifn hf c2
    refine lv_aload_n X.1 X.2.1 dX6_days_12 rfl (lv_at hl 0 rfl) ?_
    refine x_get X hP hG_M.1 (by omega) rfl in_X6_days_X6 7 (by decide) (by decide +kernel) rfl rfl dX6_days_13 ?_
    refine lv_iconst (v := 0) X.1 X.2.1 dX6_days_16 (by decide) ?_
    obtain ⟨hi3, hf⟩ := gin_of hf
    refine x_iald X hP hG_M.2.2.2.2.2.1 (by omega) hi3 dX6_days_17 ?_
    refine lv_iload_n X.1 X.2.1 dX6_days_18 rfl (lv_at hl 1 rfl) ?_
    refine lv_iadd X.1 X.2.1 dX6_days_19 ?_
    refine lv_sipush (v := 9999) X.1 X.2.1 dX6_days_20 (by decide) ?_
    refine lv_icmp_le (tgt := 29) X.1 X.2.1 dX6_days_23 (by decide) (fun c4 => ?_) (fun c4 => ?_)
    · have hf := ifp hf c4
      refine lv_iconst (v := 0) X.1 X.2.1 dX6_days_29 (by decide) ?_
      refine lv_istore_n (lv' := [(2, .int 0), (0, .ref (qa 64)), (1, .int p1)]) X.1 X.2.1 dX6_days_30 rfl hl (by decide) rfl (fun ls hl => ?_)
      have lp5 : ∀ (n5 : Nat) (v2_5 : Int32) (now_M_5 : Nat → Int32) (E : Nat → va_E) (H : Heap) (locs : List Loc) (ls : Array Slot), lp (bX6_days_31 p1) n5 (v2_5, now_M_5) = some R → va_P D vwCl (WD qa E) H → va_S (gA qa s.heap.size) s.heap H locs → Mo g qa E 64 ltr_M pos_M num_M isk_M bm_M bch_M lan_M siz_M itm_M tap_M now_M_5 tri_M rd_M kp_M bes_M → (∀ j, (j < 64 ∨ 74 ≤ j) → E j = E0 j) → lv_has ls 3 [(0, .ref (qa 64)), (1, .int p1), (2, .int v2_5)] → W p l e (rmf 6) s m args below meth c H locs 0 0 Q (F0 m 31 ls []) := by
        intro n5
        induction n5 with
        | zero =>
          intro v2_5 now_M_5 E H locs ls hf
          exact absurd hf (by intro h; cases h)
        | succ n5 ih5 =>
          intro v2_5 now_M_5 E H locs ls hf hP hS hG_M hfr hl
          have hf : bX6_days_31 p1 (lp (bX6_days_31 p1) n5) (v2_5, now_M_5) = some R := hf
          rw [bX6_days_31] at hf
          refine lv_iload_n X.1 X.2.1 dX6_days_31 rfl (lv_at hl 2 rfl) ?_
          refine lv_iload_n X.1 X.2.1 dX6_days_32 rfl (lv_at hl 1 rfl) ?_
          refine lv_icmp_ge (tgt := 53) X.1 X.2.1 dX6_days_33 (by decide) (fun c6 => ?_) (fun c6 => ?_)
          · have hf := ifp hf c6
            refine lv_aload_n X.1 X.2.1 dX6_days_53 rfl (lv_at hl 0 rfl) ?_
            refine x_get X hP hG_M.1 (by omega) rfl in_X6_days_X6 7 (by decide) (by decide +kernel) rfl rfl dX6_days_54 ?_
            obtain ⟨r7, hr7, hf⟩ := bd_of hf
            refine x_rdSi X hP hS (index := 118) (n := 1) (As := [.ref (qa (64 + 5))]) (ct_X6_bentOnes (by omega) hG_M.2.2.2.2.2.1 hr7) ggX6_days_X6_bentOnes (by decide +kernel) (by decide +kernel) (by decide +kernel) rfl (by decide +kernel) ⟨by decide, by decide⟩ rfl hl.1 rfl (Nat.le_of_ble_eq_true rfl) dX6_days_57 (fun H locs hP hS => ?_)
            obtain rfl := Option.some.inj hf
            exact hret _ _ _ _ _ _ dX6_days_60 rfl rfl (⟨hG_M, hfr⟩) hP hS
          · have hf := ifn hf c6
            refine lv_aload_n X.1 X.2.1 dX6_days_36 rfl (lv_at hl 0 rfl) ?_
            obtain ⟨r8, hr8, hf⟩ := bd_of hf
            refine x_callVv X hP hS hG_M.1 (by omega) rfl (n := 0) (As := []) (ct_X6_note hG_M hr8) gX6_days_X6_note rfl (by decide +kernel) ⟨by decide, by decide⟩ rfl hl.1 rfl (Nat.le_of_ble_eq_true rfl) dX6_days_37 (fun E H locs hp hP hS => ?_)
            obtain ⟨hW_M, hk⟩ := hp
            have hG_M := hW_M
            have hfr : ∀ j, (j < 64 ∨ 74 ≤ j) → E j = E0 j := fun j o0 => (hk j (by omega)).trans (hfr j o0)
            refine lv_aload_n X.1 X.2.1 dX6_days_40 rfl (lv_at hl 0 rfl) ?_
            refine x_get X hP hG_M.1 (by omega) rfl in_X6_days_X6 7 (by decide) (by decide +kernel) rfl rfl dX6_days_41 ?_
            obtain ⟨r9, hr9, hf⟩ := bd_of hf
            refine x_callSv X hP hS (index := 131) (n := 1) (As := [.ref (qa (64 + 5))]) (ct_X6_dayIn (by omega) hG_M.2.2.2.2.2.1 hr9) ggX6_days_X6_dayIn (by decide +kernel) (by decide +kernel) (by decide +kernel) rfl (by decide +kernel) ⟨by decide, by decide⟩ rfl hl.1 rfl (Nat.le_of_ble_eq_true rfl) dX6_days_44 (fun E H locs hp hP hS => ?_)
            obtain ⟨hW_s, hk⟩ := hp
            have hG_M := Mo_set_5 hG_M hW_s hk
            have hfr : ∀ j, (j < 64 ∨ 74 ≤ j) → E j = E0 j := fun j o0 => (hk j (by omega)).trans (hfr j o0)
            obtain ⟨x10, ex10, hf⟩ := nm_of hf
            refine lv_iinc (v := x10) (lv' := [(2, .int x10), (0, .ref (qa 64)), (1, .int p1)]) X.1 X.2.1 dX6_days_47 hl (k := 2) rfl (by rw [ex10]; rfl) (by decide) rfl (fun ls hl => ?_)
            refine lv_goto (tgt := 31) X.1 X.2.1 dX6_days_50 (by decide) ?_
            exact ih5 x10 r9 _ _ _ _ hf hP hS hG_M hfr (lv_sub hl [1, 2, 0] rfl)
      exact lp5 FU 0 now_M _ _ _ _ hf hP hS hG_M hfr (lv_sub hl [1, 2, 0] rfl)
    · have hf := ifn hf c4
      refine lv_bipush (v := (-3)) X.1 X.2.1 dX6_days_26 (by decide) ?_
      obtain rfl := Option.some.inj hf
      exact hret _ _ _ _ _ _ dX6_days_28 rfl rfl (⟨hG_M, hfr⟩) hP hS
  · have hf := ifp hf c2
    refine lv_iconst (v := (-1)) X.1 X.2.1 dX6_days_10 (by decide) ?_
    obtain rfl := Option.some.inj hf
    exact hret _ _ _ _ _ _ dX6_days_11 rfl rfl (⟨hG_M, hfr⟩) hP hS
def bX6_done_16 (p1 : Int32) (K4 : ((Int32 × (Nat → Int32))) → Option (Int32 × (Nat → Int32))) : ((Int32 × (Nat → Int32))) → Option (Int32 × (Nat → Int32))
  | (v2_4, tri_M_4) => if 60 < v2_4 then (some ((-4), tri_M_4)) else (gin (2 + p1) 191 (if (tri_M_4 (Int32.toNatClampNeg (2 + p1))) = 0 then (some (v2_4, tri_M_4)) else ((fX6_dayIn tri_M_4).bind (fun r8 => nm (v2_4 + 1) (fun x9 => K4 (x9, r8))))))
def fX6_done (p1 : Int32)  (now_M : Nat → Int32) (tri_M : Nat → Int32) : Option (Int32 × (Nat → Int32)) := (fX6_isMan p1 now_M).bind (fun r1 => if r1 = 0 then (some ((-1), tri_M)) else ((fX6_begin now_M tri_M).bind (fun r3 => lp (bX6_done_16 p1) FU (0, r3))))
theorem in_X6_done_X6 : ∀ w ∈ wsX60, w ∈ wsX6_done := by decide +kernel
set_option maxHeartbeats 4000000 in
set_option maxRecDepth 100000 in
theorem ct_X6_done {l : Launch} {D : va_G} {g : Nat → ClassId} {qa : Nat → Nat} {E0 : Nat → va_E} {p1 : Int32} {ltr_M : Int32} {pos_M : Int32} {num_M : Int32} {isk_M : Int32} {bm_M : Int32} {bch_M : Int32} {lan_M : Nat → Int32} {siz_M : Nat → Int32} {itm_M : Nat → Int64} {tap_M : Nat → Int32} {now_M : Nat → Int32} {tri_M : Nat → Int32} {rd_M : Nat → Int32} {kp_M : Nat → Int32} {bes_M : Nat → Int32} (hG_M : Mo g qa E0 64 ltr_M pos_M num_M isk_M bm_M bch_M lan_M siz_M itm_M tap_M now_M tri_M rd_M kp_M bes_M) {R : (Int32 × (Nat → Int32))} (hf : fX6_done p1 now_M tri_M = some R) : MI l yX6_done wsX6_done 6 D g qa E0 [.ref (qa 64), .int p1] R.1 (fun E => Mo g qa E 64 ltr_M pos_M num_M isk_M bm_M bch_M lan_M siz_M itm_M tap_M now_M R.2 rd_M kp_M bes_M ∧ ∀ j, (j < 64 ∨ 74 ≤ j) → E j = E0 j) := by
  refine MI.mk (by decide) rfl (Nat.le_of_ble_eq_true rfl) ?_
  intro p e s m args below meth c ls Q X hret hP hS hl
  have hl : lv_has ls 3 [(0, .ref (qa 64)), (1, .int p1)] := hl
  have hfr : ∀ j, (j < 64 ∨ 74 ≤ j) → E0 j = E0 j := fun _ _ => rfl
  rw [fX6_done] at hf
  refine lv_aload_n X.1 X.2.1 dX6_done_0 rfl (lv_at hl 0 rfl) ?_
  refine lv_iload_n X.1 X.2.1 dX6_done_1 rfl (lv_at hl 1 rfl) ?_
  obtain ⟨r1, hr1, hf⟩ := bd_of hf
  refine x_rdVi X hP hS hG_M.1 (by omega) rfl (n := 1) (As := [.int p1]) (ct_X6_isMan hG_M hr1) gX6_done_X6_isMan rfl (by decide +kernel) ⟨by decide, by decide⟩ rfl hl.1 rfl (Nat.le_of_ble_eq_true rfl) dX6_done_2 (fun H locs hP hS => ?_)
  refine lv_if_ne (tgt := 10) X.1 X.2.1 dX6_done_5 (by decide) (fun c2 => ?_) (fun c2 => ?_)
  · have hf := ifn hf c2
    refine lv_aload_n X.1 X.2.1 dX6_done_10 rfl (lv_at hl 0 rfl) ?_
    obtain ⟨r3, hr3, hf⟩ := bd_of hf
    refine x_callVv X hP hS hG_M.1 (by omega) rfl (n := 0) (As := []) (ct_X6_begin hG_M hr3) gX6_done_X6_begin rfl (by decide +kernel) ⟨by decide, by decide⟩ rfl hl.1 rfl (Nat.le_of_ble_eq_true rfl) dX6_done_11 (fun E H locs hp hP hS => ?_)
    obtain ⟨hW_M, hk⟩ := hp
    have hG_M := hW_M
    have hfr : ∀ j, (j < 64 ∨ 74 ≤ j) → E j = E0 j := fun j o0 => (hk j (by omega)).trans (hfr j o0)
    refine lv_iconst (v := 0) X.1 X.2.1 dX6_done_14 (by decide) ?_
    refine lv_istore_n (lv' := [(2, .int 0), (0, .ref (qa 64)), (1, .int p1)]) X.1 X.2.1 dX6_done_15 rfl hl (by decide) rfl (fun ls hl => ?_)
    have lp4 : ∀ (n4 : Nat) (v2_4 : Int32) (tri_M_4 : Nat → Int32) (E : Nat → va_E) (H : Heap) (locs : List Loc) (ls : Array Slot), lp (bX6_done_16 p1) n4 (v2_4, tri_M_4) = some R → va_P D vwCl (WD qa E) H → va_S (gA qa s.heap.size) s.heap H locs → Mo g qa E 64 ltr_M pos_M num_M isk_M bm_M bch_M lan_M siz_M itm_M tap_M now_M tri_M_4 rd_M kp_M bes_M → (∀ j, (j < 64 ∨ 74 ≤ j) → E j = E0 j) → lv_has ls 3 [(0, .ref (qa 64)), (1, .int p1), (2, .int v2_4)] → W p l e (rmf 6) s m args below meth c H locs 0 0 Q (F0 m 16 ls []) := by
      intro n4
      induction n4 with
      | zero =>
        intro v2_4 tri_M_4 E H locs ls hf
        exact absurd hf (by intro h; cases h)
      | succ n4 ih4 =>
        intro v2_4 tri_M_4 E H locs ls hf hP hS hG_M hfr hl
        have hf : bX6_done_16 p1 (lp (bX6_done_16 p1) n4) (v2_4, tri_M_4) = some R := hf
        rw [bX6_done_16] at hf
        refine lv_iload_n X.1 X.2.1 dX6_done_16 rfl (lv_at hl 2 rfl) ?_
        refine lv_bipush (v := 60) X.1 X.2.1 dX6_done_17 (by decide) ?_
        refine lv_icmp_gt (tgt := 48) X.1 X.2.1 dX6_done_19 (by decide) (fun c5 => ?_) (fun c5 => ?_)
        · have hf := ifp hf c5
          refine lv_bipush (v := (-4)) X.1 X.2.1 dX6_done_48 (by decide) ?_
          obtain rfl := Option.some.inj hf
          exact hret _ _ _ _ _ _ dX6_done_50 rfl rfl (⟨hG_M, hfr⟩) hP hS
        · have hf := ifn hf c5
          refine lv_aload_n X.1 X.2.1 dX6_done_22 rfl (lv_at hl 0 rfl) ?_
          refine x_get X hP hG_M.1 (by omega) rfl in_X6_done_X6 8 (by decide) (by decide +kernel) rfl rfl dX6_done_23 ?_
          refine lv_iconst (v := 2) X.1 X.2.1 dX6_done_26 (by decide) ?_
          refine lv_iload_n X.1 X.2.1 dX6_done_27 rfl (lv_at hl 1 rfl) ?_
          refine lv_iadd X.1 X.2.1 dX6_done_28 ?_
          obtain ⟨hi6, hf⟩ := gin_of hf
          refine x_iald X hP hG_M.2.2.2.2.2.2.1 (by omega) hi6 dX6_done_29 ?_
          refine lv_if_ne (tgt := 35) X.1 X.2.1 dX6_done_30 (by decide) (fun c7 => ?_) (fun c7 => ?_)
          · have hf := ifn hf c7
            refine lv_aload_n X.1 X.2.1 dX6_done_35 rfl (lv_at hl 0 rfl) ?_
            refine x_get X hP hG_M.1 (by omega) rfl in_X6_done_X6 8 (by decide) (by decide +kernel) rfl rfl dX6_done_36 ?_
            obtain ⟨r8, hr8, hf⟩ := bd_of hf
            refine x_callSv X hP hS (index := 131) (n := 1) (As := [.ref (qa (64 + 6))]) (ct_X6_dayIn (by omega) hG_M.2.2.2.2.2.2.1 hr8) ggX6_done_X6_dayIn (by decide +kernel) (by decide +kernel) (by decide +kernel) rfl (by decide +kernel) ⟨by decide, by decide⟩ rfl hl.1 rfl (Nat.le_of_ble_eq_true rfl) dX6_done_39 (fun E H locs hp hP hS => ?_)
            obtain ⟨hW_s, hk⟩ := hp
            have hG_M := Mo_set_6 hG_M hW_s hk
            have hfr : ∀ j, (j < 64 ∨ 74 ≤ j) → E j = E0 j := fun j o0 => (hk j (by omega)).trans (hfr j o0)
            obtain ⟨x9, ex9, hf⟩ := nm_of hf
            refine lv_iinc (v := x9) (lv' := [(2, .int x9), (0, .ref (qa 64)), (1, .int p1)]) X.1 X.2.1 dX6_done_42 hl (k := 2) rfl (by rw [ex9]; rfl) (by decide) rfl (fun ls hl => ?_)
            refine lv_goto (tgt := 16) X.1 X.2.1 dX6_done_45 (by decide) ?_
            exact ih4 x9 r8 _ _ _ _ hf hP hS hG_M hfr (lv_sub hl [1, 2, 0] rfl)
          · have hf := ifp hf c7
            refine lv_iload_n X.1 X.2.1 dX6_done_33 rfl (lv_at hl 2 rfl) ?_
            obtain rfl := Option.some.inj hf
            exact hret _ _ _ _ _ _ dX6_done_34 rfl rfl (⟨hG_M, hfr⟩) hP hS
    exact lp4 FU 0 r3 _ _ _ _ hf hP hS hG_M hfr (lv_sub hl [1, 2, 0] rfl)
  · have hf := ifp hf c2
    refine lv_iconst (v := (-1)) X.1 X.2.1 dX6_done_8 (by decide) ?_
    obtain rfl := Option.some.inj hf
    exact hret _ _ _ _ _ _ dX6_done_9 rfl rfl (⟨hG_M, hfr⟩) hP hS
def bX6_drift_31 (p1 : Int32) (K5 : ((Int32 × (Nat → Int32))) → Option (Int32 × (Nat → Int32))) : ((Int32 × (Nat → Int32))) → Option (Int32 × (Nat → Int32))
  | (v2_5, now_M_5) => if p1 ≤ v2_5 then ((fX6_bentOnes now_M_5).bind (fun r7 => some (r7, now_M_5))) else ((fX6_note now_M_5).bind (fun r8 => gin 1 191 (gin 1 191 (gin 25 191 (if ((upd r8 (Int32.toNatClampNeg 1) (Int64.toInt32 ((((Int32.toInt64 (r8 (Int32.toNatClampNeg 1))) * 1103515245) + 12345) - (((Int32.toInt64 (r8 (Int32.toNatClampNeg 1))) * 1103515245) + 12345) / 2147483648 * 2147483648))) (Int32.toNatClampNeg 25)) ≤ 0 then ((fX6_dayIn (upd r8 (Int32.toNatClampNeg 1) (Int64.toInt32 ((((Int32.toInt64 (r8 (Int32.toNatClampNeg 1))) * 1103515245) + 12345) - (((Int32.toInt64 (r8 (Int32.toNatClampNeg 1))) * 1103515245) + 12345) / 2147483648 * 2147483648)))).bind (fun r13 => nm (v2_5 + 1) (fun x14 => K5 (x14, r13)))) else (gin 1 191 (gin 25 191 (gnz ((upd r8 (Int32.toNatClampNeg 1) (Int64.toInt32 ((((Int32.toInt64 (r8 (Int32.toNatClampNeg 1))) * 1103515245) + 12345) - (((Int32.toInt64 (r8 (Int32.toNatClampNeg 1))) * 1103515245) + 12345) / 2147483648 * 2147483648))) (Int32.toNatClampNeg 25)) (gin 1 191 (gin 19 191 (gnz ((upd r8 (Int32.toNatClampNeg 1) (Int64.toInt32 ((((Int32.toInt64 (r8 (Int32.toNatClampNeg 1))) * 1103515245) + 12345) - (((Int32.toInt64 (r8 (Int32.toNatClampNeg 1))) * 1103515245) + 12345) / 2147483648 * 2147483648))) (Int32.toNatClampNeg 19)) (gin (13 + ((((upd r8 (Int32.toNatClampNeg 1) (Int64.toInt32 ((((Int32.toInt64 (r8 (Int32.toNatClampNeg 1))) * 1103515245) + 12345) - (((Int32.toInt64 (r8 (Int32.toNatClampNeg 1))) * 1103515245) + 12345) / 2147483648 * 2147483648))) (Int32.toNatClampNeg 1)) / 65536) - (((upd r8 (Int32.toNatClampNeg 1) (Int64.toInt32 ((((Int32.toInt64 (r8 (Int32.toNatClampNeg 1))) * 1103515245) + 12345) - (((Int32.toInt64 (r8 (Int32.toNatClampNeg 1))) * 1103515245) + 12345) / 2147483648 * 2147483648))) (Int32.toNatClampNeg 1)) / 65536) / ((upd r8 (Int32.toNatClampNeg 1) (Int64.toInt32 ((((Int32.toInt64 (r8 (Int32.toNatClampNeg 1))) * 1103515245) + 12345) - (((Int32.toInt64 (r8 (Int32.toNatClampNeg 1))) * 1103515245) + 12345) / 2147483648 * 2147483648))) (Int32.toNatClampNeg 25)) * ((upd r8 (Int32.toNatClampNeg 1) (Int64.toInt32 ((((Int32.toInt64 (r8 (Int32.toNatClampNeg 1))) * 1103515245) + 12345) - (((Int32.toInt64 (r8 (Int32.toNatClampNeg 1))) * 1103515245) + 12345) / 2147483648 * 2147483648))) (Int32.toNatClampNeg 25)))) 191 ((fX6_dayIn (upd (upd r8 (Int32.toNatClampNeg 1) (Int64.toInt32 ((((Int32.toInt64 (r8 (Int32.toNatClampNeg 1))) * 1103515245) + 12345) - (((Int32.toInt64 (r8 (Int32.toNatClampNeg 1))) * 1103515245) + 12345) / 2147483648 * 2147483648))) (Int32.toNatClampNeg (13 + ((((upd r8 (Int32.toNatClampNeg 1) (Int64.toInt32 ((((Int32.toInt64 (r8 (Int32.toNatClampNeg 1))) * 1103515245) + 12345) - (((Int32.toInt64 (r8 (Int32.toNatClampNeg 1))) * 1103515245) + 12345) / 2147483648 * 2147483648))) (Int32.toNatClampNeg 1)) / 65536) - (((upd r8 (Int32.toNatClampNeg 1) (Int64.toInt32 ((((Int32.toInt64 (r8 (Int32.toNatClampNeg 1))) * 1103515245) + 12345) - (((Int32.toInt64 (r8 (Int32.toNatClampNeg 1))) * 1103515245) + 12345) / 2147483648 * 2147483648))) (Int32.toNatClampNeg 1)) / 65536) / ((upd r8 (Int32.toNatClampNeg 1) (Int64.toInt32 ((((Int32.toInt64 (r8 (Int32.toNatClampNeg 1))) * 1103515245) + 12345) - (((Int32.toInt64 (r8 (Int32.toNatClampNeg 1))) * 1103515245) + 12345) / 2147483648 * 2147483648))) (Int32.toNatClampNeg 25)) * ((upd r8 (Int32.toNatClampNeg 1) (Int64.toInt32 ((((Int32.toInt64 (r8 (Int32.toNatClampNeg 1))) * 1103515245) + 12345) - (((Int32.toInt64 (r8 (Int32.toNatClampNeg 1))) * 1103515245) + 12345) / 2147483648 * 2147483648))) (Int32.toNatClampNeg 25))))) ((((upd r8 (Int32.toNatClampNeg 1) (Int64.toInt32 ((((Int32.toInt64 (r8 (Int32.toNatClampNeg 1))) * 1103515245) + 12345) - (((Int32.toInt64 (r8 (Int32.toNatClampNeg 1))) * 1103515245) + 12345) / 2147483648 * 2147483648))) (Int32.toNatClampNeg 1)) / 128) - (((upd r8 (Int32.toNatClampNeg 1) (Int64.toInt32 ((((Int32.toInt64 (r8 (Int32.toNatClampNeg 1))) * 1103515245) + 12345) - (((Int32.toInt64 (r8 (Int32.toNatClampNeg 1))) * 1103515245) + 12345) / 2147483648 * 2147483648))) (Int32.toNatClampNeg 1)) / 128) / ((upd r8 (Int32.toNatClampNeg 1) (Int64.toInt32 ((((Int32.toInt64 (r8 (Int32.toNatClampNeg 1))) * 1103515245) + 12345) - (((Int32.toInt64 (r8 (Int32.toNatClampNeg 1))) * 1103515245) + 12345) / 2147483648 * 2147483648))) (Int32.toNatClampNeg 19)) * ((upd r8 (Int32.toNatClampNeg 1) (Int64.toInt32 ((((Int32.toInt64 (r8 (Int32.toNatClampNeg 1))) * 1103515245) + 12345) - (((Int32.toInt64 (r8 (Int32.toNatClampNeg 1))) * 1103515245) + 12345) / 2147483648 * 2147483648))) (Int32.toNatClampNeg 19))))).bind (fun r22 => nm (v2_5 + 1) (fun x23 => K5 (x23, r22))))))))))))))))
def fX6_drift (p1 : Int32)  (now_M : Nat → Int32) : Option (Int32 × (Nat → Int32)) := (fX6_in p1 1 40).bind (fun r1 => if r1 = 0 then (some ((-1), now_M)) else (gin 0 191 (if ((now_M (Int32.toNatClampNeg 0)) + p1) ≤ 9999 then (lp (bX6_drift_31 p1) FU (0, now_M)) else (some ((-3), now_M)))))
theorem in_X6_drift_X6 : ∀ w ∈ wsX60, w ∈ wsX6_drift := by decide +kernel
set_option maxHeartbeats 4000000 in
set_option maxRecDepth 100000 in
theorem ct_X6_drift {l : Launch} {D : va_G} {g : Nat → ClassId} {qa : Nat → Nat} {E0 : Nat → va_E} {p1 : Int32} {ltr_M : Int32} {pos_M : Int32} {num_M : Int32} {isk_M : Int32} {bm_M : Int32} {bch_M : Int32} {lan_M : Nat → Int32} {siz_M : Nat → Int32} {itm_M : Nat → Int64} {tap_M : Nat → Int32} {now_M : Nat → Int32} {tri_M : Nat → Int32} {rd_M : Nat → Int32} {kp_M : Nat → Int32} {bes_M : Nat → Int32} (hG_M : Mo g qa E0 64 ltr_M pos_M num_M isk_M bm_M bch_M lan_M siz_M itm_M tap_M now_M tri_M rd_M kp_M bes_M) {R : (Int32 × (Nat → Int32))} (hf : fX6_drift p1 now_M = some R) : MI l yX6_drift wsX6_drift 6 D g qa E0 [.ref (qa 64), .int p1] R.1 (fun E => Mo g qa E 64 ltr_M pos_M num_M isk_M bm_M bch_M lan_M siz_M itm_M tap_M R.2 tri_M rd_M kp_M bes_M ∧ ∀ j, (j < 64 ∨ 74 ≤ j) → E j = E0 j) := by
  refine MI.mk (by decide) rfl (Nat.le_of_ble_eq_true rfl) ?_
  intro p e s m args below meth c ls Q X hret hP hS hl
  have hl : lv_has ls 3 [(0, .ref (qa 64)), (1, .int p1)] := hl
  have hfr : ∀ j, (j < 64 ∨ 74 ≤ j) → E0 j = E0 j := fun _ _ => rfl
  rw [fX6_drift] at hf
  refine lv_iload_n X.1 X.2.1 dX6_drift_0 rfl (lv_at hl 1 rfl) ?_
  refine lv_iconst (v := 1) X.1 X.2.1 dX6_drift_1 (by decide) ?_
  refine lv_bipush (v := 40) X.1 X.2.1 dX6_drift_2 (by decide) ?_
  obtain ⟨r1, hr1, hf⟩ := bd_of hf
  refine x_rdSi X hP hS (index := 38) (n := 3) (As := [.int p1, .int 1, .int 40]) (ct_X6_in  hr1) ggX6_drift_X6_in (by decide +kernel) (by decide +kernel) (by decide +kernel) rfl (by decide +kernel) ⟨by decide, by decide⟩ rfl hl.1 rfl (Nat.le_of_ble_eq_true rfl) dX6_drift_4 (fun H locs hP hS => ?_)
  refine lv_if_ne (tgt := 12) X.1 X.2.1 dX6_drift_7 (by decide) (fun c2 => ?_) (fun c2 => ?_)
  · have hf := ifn hf c2
    refine lv_aload_n X.1 X.2.1 dX6_drift_12 rfl (lv_at hl 0 rfl) ?_
    refine x_get X hP hG_M.1 (by omega) rfl in_X6_drift_X6 7 (by decide) (by decide +kernel) rfl rfl dX6_drift_13 ?_
    refine lv_iconst (v := 0) X.1 X.2.1 dX6_drift_16 (by decide) ?_
    obtain ⟨hi3, hf⟩ := gin_of hf
    refine x_iald X hP hG_M.2.2.2.2.2.1 (by omega) hi3 dX6_drift_17 ?_
    refine lv_iload_n X.1 X.2.1 dX6_drift_18 rfl (lv_at hl 1 rfl) ?_
    refine lv_iadd X.1 X.2.1 dX6_drift_19 ?_
    refine lv_sipush (v := 9999) X.1 X.2.1 dX6_drift_20 (by decide) ?_
    refine lv_icmp_le (tgt := 29) X.1 X.2.1 dX6_drift_23 (by decide) (fun c4 => ?_) (fun c4 => ?_)
    · have hf := ifp hf c4
      refine lv_iconst (v := 0) X.1 X.2.1 dX6_drift_29 (by decide) ?_
      refine lv_istore_n (lv' := [(2, .int 0), (0, .ref (qa 64)), (1, .int p1)]) X.1 X.2.1 dX6_drift_30 rfl hl (by decide) rfl (fun ls hl => ?_)
      have lp5 : ∀ (n5 : Nat) (v2_5 : Int32) (now_M_5 : Nat → Int32) (E : Nat → va_E) (H : Heap) (locs : List Loc) (ls : Array Slot), lp (bX6_drift_31 p1) n5 (v2_5, now_M_5) = some R → va_P D vwCl (WD qa E) H → va_S (gA qa s.heap.size) s.heap H locs → Mo g qa E 64 ltr_M pos_M num_M isk_M bm_M bch_M lan_M siz_M itm_M tap_M now_M_5 tri_M rd_M kp_M bes_M → (∀ j, (j < 64 ∨ 74 ≤ j) → E j = E0 j) → lv_has ls 3 [(0, .ref (qa 64)), (1, .int p1), (2, .int v2_5)] → W p l e (rmf 6) s m args below meth c H locs 0 0 Q (F0 m 31 ls []) := by
        intro n5
        induction n5 with
        | zero =>
          intro v2_5 now_M_5 E H locs ls hf
          exact absurd hf (by intro h; cases h)
        | succ n5 ih5 =>
          intro v2_5 now_M_5 E H locs ls hf hP hS hG_M hfr hl
          have hf : bX6_drift_31 p1 (lp (bX6_drift_31 p1) n5) (v2_5, now_M_5) = some R := hf
          rw [bX6_drift_31] at hf
          refine lv_iload_n X.1 X.2.1 dX6_drift_31 rfl (lv_at hl 2 rfl) ?_
          refine lv_iload_n X.1 X.2.1 dX6_drift_32 rfl (lv_at hl 1 rfl) ?_
          refine lv_icmp_ge (tgt := 132) X.1 X.2.1 dX6_drift_33 (by decide) (fun c6 => ?_) (fun c6 => ?_)
          · have hf := ifp hf c6
            refine lv_aload_n X.1 X.2.1 dX6_drift_132 rfl (lv_at hl 0 rfl) ?_
            refine x_get X hP hG_M.1 (by omega) rfl in_X6_drift_X6 7 (by decide) (by decide +kernel) rfl rfl dX6_drift_133 ?_
            obtain ⟨r7, hr7, hf⟩ := bd_of hf
            refine x_rdSi X hP hS (index := 118) (n := 1) (As := [.ref (qa (64 + 5))]) (ct_X6_bentOnes (by omega) hG_M.2.2.2.2.2.1 hr7) ggX6_drift_X6_bentOnes (by decide +kernel) (by decide +kernel) (by decide +kernel) rfl (by decide +kernel) ⟨by decide, by decide⟩ rfl hl.1 rfl (Nat.le_of_ble_eq_true rfl) dX6_drift_136 (fun H locs hP hS => ?_)
            obtain rfl := Option.some.inj hf
            exact hret _ _ _ _ _ _ dX6_drift_139 rfl rfl (⟨hG_M, hfr⟩) hP hS
          · have hf := ifn hf c6
            refine lv_aload_n X.1 X.2.1 dX6_drift_36 rfl (lv_at hl 0 rfl) ?_
            obtain ⟨r8, hr8, hf⟩ := bd_of hf
            refine x_callVv X hP hS hG_M.1 (by omega) rfl (n := 0) (As := []) (ct_X6_note hG_M hr8) gX6_drift_X6_note rfl (by decide +kernel) ⟨by decide, by decide⟩ rfl hl.1 rfl (Nat.le_of_ble_eq_true rfl) dX6_drift_37 (fun E H locs hp hP hS => ?_)
            obtain ⟨hW_M, hk⟩ := hp
            have hG_M := hW_M
            have hfr : ∀ j, (j < 64 ∨ 74 ≤ j) → E j = E0 j := fun j o0 => (hk j (by omega)).trans (hfr j o0)
            refine lv_aload_n X.1 X.2.1 dX6_drift_40 rfl (lv_at hl 0 rfl) ?_
            refine x_get X hP hG_M.1 (by omega) rfl in_X6_drift_X6 7 (by decide) (by decide +kernel) rfl rfl dX6_drift_41 ?_
            refine lv_iconst (v := 1) X.1 X.2.1 dX6_drift_44 (by decide) ?_
            refine lv_aload_n X.1 X.2.1 dX6_drift_45 rfl (lv_at hl 0 rfl) ?_
            refine x_get X hP hG_M.1 (by omega) rfl in_X6_drift_X6 7 (by decide) (by decide +kernel) rfl rfl dX6_drift_46 ?_
            refine lv_iconst (v := 1) X.1 X.2.1 dX6_drift_49 (by decide) ?_
            obtain ⟨hi9, hf⟩ := gin_of hf
            refine x_iald X hP hG_M.2.2.2.2.2.1 (by omega) hi9 dX6_drift_50 ?_
            refine lv_i2l X.1 X.2.1 dX6_drift_51 rfl ?_
            refine lv_ldc2 (v := 1103515245) X.1 X.2.1 X.2.2.2.1 (X.2.2.2.2.1 (.constantLong RX6 135 (1103515245)) (by decide +kernel)) dX6_drift_52 ?_
            refine lv_lmul X.1 X.2.1 dX6_drift_55 ?_
            refine lv_ldc2 (v := 12345) X.1 X.2.1 X.2.2.2.1 (X.2.2.2.2.1 (.constantLong RX6 137 (12345)) (by decide +kernel)) dX6_drift_56 ?_
            refine lv_ladd X.1 X.2.1 dX6_drift_59 ?_
            refine lv_ldc2 (v := 2147483648) X.1 X.2.1 X.2.2.2.1 (X.2.2.2.2.1 (.constantLong RX6 139 (2147483648)) (by decide +kernel)) dX6_drift_60 ?_
            refine lv_lrem X.1 X.2.1 dX6_drift_63 (by decide) ?_
            refine lv_l2i X.1 X.2.1 dX6_drift_64 rfl ?_
            obtain ⟨hi10, hf⟩ := gin_of hf
            refine x_iast X hP hS hG_M.2.2.2.2.2.1 (by omega) hi10 dX6_drift_65 (fun E H locs h1 hk hP hS => ?_)
            have hG_M := Mo_set_5 hG_M h1 hk
            have hfr : ∀ j, (j < 64 ∨ 74 ≤ j) → E j = E0 j := fun j o0 => (hk j (by omega)).trans (hfr j o0)
            refine lv_aload_n X.1 X.2.1 dX6_drift_66 rfl (lv_at hl 0 rfl) ?_
            refine x_get X hP hG_M.1 (by omega) rfl in_X6_drift_X6 7 (by decide) (by decide +kernel) rfl rfl dX6_drift_67 ?_
            refine lv_bipush (v := 25) X.1 X.2.1 dX6_drift_70 (by decide) ?_
            obtain ⟨hi11, hf⟩ := gin_of hf
            refine x_iald X hP hG_M.2.2.2.2.2.1 (by omega) hi11 dX6_drift_72 ?_
            refine lv_if_le (tgt := 119) X.1 X.2.1 dX6_drift_73 (by decide) (fun c12 => ?_) (fun c12 => ?_)
            · have hf := ifp hf c12
              refine lv_aload_n X.1 X.2.1 dX6_drift_119 rfl (lv_at hl 0 rfl) ?_
              refine x_get X hP hG_M.1 (by omega) rfl in_X6_drift_X6 7 (by decide) (by decide +kernel) rfl rfl dX6_drift_120 ?_
              obtain ⟨r13, hr13, hf⟩ := bd_of hf
              refine x_callSv X hP hS (index := 131) (n := 1) (As := [.ref (qa (64 + 5))]) (ct_X6_dayIn (by omega) hG_M.2.2.2.2.2.1 hr13) ggX6_drift_X6_dayIn (by decide +kernel) (by decide +kernel) (by decide +kernel) rfl (by decide +kernel) ⟨by decide, by decide⟩ rfl hl.1 rfl (Nat.le_of_ble_eq_true rfl) dX6_drift_123 (fun E H locs hp hP hS => ?_)
              obtain ⟨hW_s, hk⟩ := hp
              have hG_M := Mo_set_5 hG_M hW_s hk
              have hfr : ∀ j, (j < 64 ∨ 74 ≤ j) → E j = E0 j := fun j o0 => (hk j (by omega)).trans (hfr j o0)
              obtain ⟨x14, ex14, hf⟩ := nm_of hf
              refine lv_iinc (v := x14) (lv' := [(2, .int x14), (0, .ref (qa 64)), (1, .int p1)]) X.1 X.2.1 dX6_drift_126 hl (k := 2) rfl (by rw [ex14]; rfl) (by decide) rfl (fun ls hl => ?_)
              refine lv_goto (tgt := 31) X.1 X.2.1 dX6_drift_129 (by decide) ?_
              exact ih5 x14 r13 _ _ _ _ hf hP hS hG_M hfr (lv_sub hl [1, 2, 0] rfl)
            · have hf := ifn hf c12
              refine lv_aload_n X.1 X.2.1 dX6_drift_76 rfl (lv_at hl 0 rfl) ?_
              refine x_get X hP hG_M.1 (by omega) rfl in_X6_drift_X6 7 (by decide) (by decide +kernel) rfl rfl dX6_drift_77 ?_
              refine lv_bipush (v := 13) X.1 X.2.1 dX6_drift_80 (by decide) ?_
              refine lv_aload_n X.1 X.2.1 dX6_drift_82 rfl (lv_at hl 0 rfl) ?_
              refine x_get X hP hG_M.1 (by omega) rfl in_X6_drift_X6 7 (by decide) (by decide +kernel) rfl rfl dX6_drift_83 ?_
              refine lv_iconst (v := 1) X.1 X.2.1 dX6_drift_86 (by decide) ?_
              obtain ⟨hi15, hf⟩ := gin_of hf
              refine x_iald X hP hG_M.2.2.2.2.2.1 (by omega) hi15 dX6_drift_87 ?_
              refine lv_ldc (v := 65536) X.1 X.2.1 X.2.2.2.1 (X.2.2.2.2.1 (.constant RX6 141 (65536)) (by decide +kernel)) dX6_drift_88 ?_
              refine lv_idiv X.1 X.2.1 dX6_drift_90 (by decide) ?_
              refine lv_aload_n X.1 X.2.1 dX6_drift_91 rfl (lv_at hl 0 rfl) ?_
              refine x_get X hP hG_M.1 (by omega) rfl in_X6_drift_X6 7 (by decide) (by decide +kernel) rfl rfl dX6_drift_92 ?_
              refine lv_bipush (v := 25) X.1 X.2.1 dX6_drift_95 (by decide) ?_
              obtain ⟨hi16, hf⟩ := gin_of hf
              refine x_iald X hP hG_M.2.2.2.2.2.1 (by omega) hi16 dX6_drift_97 ?_
              obtain ⟨hz17, hf⟩ := gnz_of hf
              refine lv_irem X.1 X.2.1 dX6_drift_98 hz17 ?_
              refine lv_iadd X.1 X.2.1 dX6_drift_99 ?_
              refine lv_aload_n X.1 X.2.1 dX6_drift_100 rfl (lv_at hl 0 rfl) ?_
              refine x_get X hP hG_M.1 (by omega) rfl in_X6_drift_X6 7 (by decide) (by decide +kernel) rfl rfl dX6_drift_101 ?_
              refine lv_iconst (v := 1) X.1 X.2.1 dX6_drift_104 (by decide) ?_
              obtain ⟨hi18, hf⟩ := gin_of hf
              refine x_iald X hP hG_M.2.2.2.2.2.1 (by omega) hi18 dX6_drift_105 ?_
              refine lv_sipush (v := 128) X.1 X.2.1 dX6_drift_106 (by decide) ?_
              refine lv_idiv X.1 X.2.1 dX6_drift_109 (by decide) ?_
              refine lv_aload_n X.1 X.2.1 dX6_drift_110 rfl (lv_at hl 0 rfl) ?_
              refine x_get X hP hG_M.1 (by omega) rfl in_X6_drift_X6 7 (by decide) (by decide +kernel) rfl rfl dX6_drift_111 ?_
              refine lv_bipush (v := 19) X.1 X.2.1 dX6_drift_114 (by decide) ?_
              obtain ⟨hi19, hf⟩ := gin_of hf
              refine x_iald X hP hG_M.2.2.2.2.2.1 (by omega) hi19 dX6_drift_116 ?_
              obtain ⟨hz20, hf⟩ := gnz_of hf
              refine lv_irem X.1 X.2.1 dX6_drift_117 hz20 ?_
              obtain ⟨hi21, hf⟩ := gin_of hf
              refine x_iast X hP hS hG_M.2.2.2.2.2.1 (by omega) hi21 dX6_drift_118 (fun E H locs h1 hk hP hS => ?_)
              have hG_M := Mo_set_5 hG_M h1 hk
              have hfr : ∀ j, (j < 64 ∨ 74 ≤ j) → E j = E0 j := fun j o0 => (hk j (by omega)).trans (hfr j o0)
              refine lv_aload_n X.1 X.2.1 dX6_drift_119 rfl (lv_at hl 0 rfl) ?_
              refine x_get X hP hG_M.1 (by omega) rfl in_X6_drift_X6 7 (by decide) (by decide +kernel) rfl rfl dX6_drift_120 ?_
              obtain ⟨r22, hr22, hf⟩ := bd_of hf
              refine x_callSv X hP hS (index := 131) (n := 1) (As := [.ref (qa (64 + 5))]) (ct_X6_dayIn (by omega) hG_M.2.2.2.2.2.1 hr22) ggX6_drift_X6_dayIn (by decide +kernel) (by decide +kernel) (by decide +kernel) rfl (by decide +kernel) ⟨by decide, by decide⟩ rfl hl.1 rfl (Nat.le_of_ble_eq_true rfl) dX6_drift_123 (fun E H locs hp hP hS => ?_)
              obtain ⟨hW_s, hk⟩ := hp
              have hG_M := Mo_set_5 hG_M hW_s hk
              have hfr : ∀ j, (j < 64 ∨ 74 ≤ j) → E j = E0 j := fun j o0 => (hk j (by omega)).trans (hfr j o0)
              obtain ⟨x23, ex23, hf⟩ := nm_of hf
              refine lv_iinc (v := x23) (lv' := [(2, .int x23), (0, .ref (qa 64)), (1, .int p1)]) X.1 X.2.1 dX6_drift_126 hl (k := 2) rfl (by rw [ex23]; rfl) (by decide) rfl (fun ls hl => ?_)
              refine lv_goto (tgt := 31) X.1 X.2.1 dX6_drift_129 (by decide) ?_
              exact ih5 x23 r22 _ _ _ _ hf hP hS hG_M hfr (lv_sub hl [1, 2, 0] rfl)
      exact lp5 FU 0 now_M _ _ _ _ hf hP hS hG_M hfr (lv_sub hl [1, 2, 0] rfl)
    · have hf := ifn hf c4
      refine lv_bipush (v := (-3)) X.1 X.2.1 dX6_drift_26 (by decide) ?_
      obtain rfl := Option.some.inj hf
      exact hret _ _ _ _ _ _ dX6_drift_28 rfl rfl (⟨hG_M, hfr⟩) hP hS
  · have hf := ifp hf c2
    refine lv_iconst (v := (-1)) X.1 X.2.1 dX6_drift_10 (by decide) ?_
    obtain rfl := Option.some.inj hf
    exact hret _ _ _ _ _ _ dX6_drift_11 rfl rfl (⟨hG_M, hfr⟩) hP hS
def fX6_drop (p1 : Int32)  (lan_M : Nat → Int32) (siz_M : Nat → Int32) : Option (Int32 × (Nat → Int32)) := (fX6_isSheet p1).bind (fun r1 => if r1 = 0 then (some ((-1), lan_M)) else (gin p1 4 (if 0 ≤ (lan_M (Int32.toNatClampNeg p1)) then (gin p1 4 (gin p1 4 (some (siz_M (Int32.toNatClampNeg p1), upd lan_M (Int32.toNatClampNeg p1) (-1))))) else (some ((-11), lan_M)))))
theorem in_X6_drop_X6 : ∀ w ∈ wsX60, w ∈ wsX6_drop := by decide +kernel
set_option maxHeartbeats 4000000 in
set_option maxRecDepth 100000 in
theorem ct_X6_drop {l : Launch} {D : va_G} {g : Nat → ClassId} {qa : Nat → Nat} {E0 : Nat → va_E} {p1 : Int32} {ltr_M : Int32} {pos_M : Int32} {num_M : Int32} {isk_M : Int32} {bm_M : Int32} {bch_M : Int32} {lan_M : Nat → Int32} {siz_M : Nat → Int32} {itm_M : Nat → Int64} {tap_M : Nat → Int32} {now_M : Nat → Int32} {tri_M : Nat → Int32} {rd_M : Nat → Int32} {kp_M : Nat → Int32} {bes_M : Nat → Int32} (hG_M : Mo g qa E0 64 ltr_M pos_M num_M isk_M bm_M bch_M lan_M siz_M itm_M tap_M now_M tri_M rd_M kp_M bes_M) {R : (Int32 × (Nat → Int32))} (hf : fX6_drop p1 lan_M siz_M = some R) : MI l yX6_drop wsX6_drop 2 D g qa E0 [.ref (qa 64), .int p1] R.1 (fun E => Mo g qa E 64 ltr_M pos_M num_M isk_M bm_M bch_M R.2 siz_M itm_M tap_M now_M tri_M rd_M kp_M bes_M ∧ ∀ j, (j < 64 ∨ 74 ≤ j) → E j = E0 j) := by
  refine MI.mk (by decide) rfl (Nat.le_of_ble_eq_true rfl) ?_
  intro p e s m args below meth c ls Q X hret hP hS hl
  have hl : lv_has ls 2 [(0, .ref (qa 64)), (1, .int p1)] := hl
  have hfr : ∀ j, (j < 64 ∨ 74 ≤ j) → E0 j = E0 j := fun _ _ => rfl
  rw [fX6_drop] at hf
  refine lv_iload_n X.1 X.2.1 dX6_drop_0 rfl (lv_at hl 1 rfl) ?_
  obtain ⟨r1, hr1, hf⟩ := bd_of hf
  refine x_rdSi X hP hS (index := 178) (n := 1) (As := [.int p1]) (ct_X6_isSheet  hr1) ggX6_drop_X6_isSheet (by decide +kernel) (by decide +kernel) (by decide +kernel) rfl (by decide +kernel) ⟨by decide, by decide⟩ rfl hl.1 rfl (Nat.le_of_ble_eq_true rfl) dX6_drop_1 (fun H locs hP hS => ?_)
  refine lv_if_ne (tgt := 9) X.1 X.2.1 dX6_drop_4 (by decide) (fun c2 => ?_) (fun c2 => ?_)
  · have hf := ifn hf c2
    refine lv_aload_n X.1 X.2.1 dX6_drop_9 rfl (lv_at hl 0 rfl) ?_
    refine x_get X hP hG_M.1 (by omega) rfl in_X6_drop_X6 0 (by decide) (by decide +kernel) rfl rfl dX6_drop_10 ?_
    refine lv_iload_n X.1 X.2.1 dX6_drop_13 rfl (lv_at hl 1 rfl) ?_
    obtain ⟨hi3, hf⟩ := gin_of hf
    refine x_iald X hP hG_M.2.1 (by omega) hi3 dX6_drop_14 ?_
    refine lv_if_ge (tgt := 21) X.1 X.2.1 dX6_drop_15 (by decide) (fun c4 => ?_) (fun c4 => ?_)
    · have hf := ifp hf c4
      refine lv_aload_n X.1 X.2.1 dX6_drop_21 rfl (lv_at hl 0 rfl) ?_
      refine x_get X hP hG_M.1 (by omega) rfl in_X6_drop_X6 0 (by decide) (by decide +kernel) rfl rfl dX6_drop_22 ?_
      refine lv_iload_n X.1 X.2.1 dX6_drop_25 rfl (lv_at hl 1 rfl) ?_
      refine lv_iconst (v := (-1)) X.1 X.2.1 dX6_drop_26 (by decide) ?_
      obtain ⟨hi5, hf⟩ := gin_of hf
      refine x_iast X hP hS hG_M.2.1 (by omega) hi5 dX6_drop_27 (fun E H locs h1 hk hP hS => ?_)
      have hG_M := Mo_set_1 hG_M h1 hk
      have hfr : ∀ j, (j < 64 ∨ 74 ≤ j) → E j = E0 j := fun j o0 => (hk j (by omega)).trans (hfr j o0)
      refine lv_aload_n X.1 X.2.1 dX6_drop_28 rfl (lv_at hl 0 rfl) ?_
      refine x_get X hP hG_M.1 (by omega) rfl in_X6_drop_X6 1 (by decide) (by decide +kernel) rfl rfl dX6_drop_29 ?_
      refine lv_iload_n X.1 X.2.1 dX6_drop_32 rfl (lv_at hl 1 rfl) ?_
      obtain ⟨hi6, hf⟩ := gin_of hf
      refine x_iald X hP hG_M.2.2.1 (by omega) hi6 dX6_drop_33 ?_
      obtain rfl := Option.some.inj hf
      exact hret _ _ _ _ _ _ dX6_drop_34 rfl rfl (⟨hG_M, hfr⟩) hP hS
    · have hf := ifn hf c4
      refine lv_bipush (v := (-11)) X.1 X.2.1 dX6_drop_18 (by decide) ?_
      obtain rfl := Option.some.inj hf
      exact hret _ _ _ _ _ _ dX6_drop_20 rfl rfl (⟨hG_M, hfr⟩) hP hS
  · have hf := ifp hf c2
    refine lv_iconst (v := (-1)) X.1 X.2.1 dX6_drop_7 (by decide) ?_
    obtain rfl := Option.some.inj hf
    exact hret _ _ _ _ _ _ dX6_drop_8 rfl rfl (⟨hG_M, hfr⟩) hP hS
def bX6_ways_4 (now_M : Nat → Int32) (K1 : ((Int32 × Int32)) → Option Int32) : ((Int32 × Int32)) → Option Int32
  | (v1_1, v2_1) => gin 25 191 (if (now_M (Int32.toNatClampNeg 25)) ≤ v2_1 then (some v1_1) else (gin (13 + v2_1) 191 (if (now_M (Int32.toNatClampNeg (13 + v2_1))) = (-4) then (nm (v1_1 * 1) (fun x9 => nm (v2_1 + 1) (fun x10 => K1 (x9, x10)))) else (gin 19 191 (nm (v1_1 * (now_M (Int32.toNatClampNeg 19))) (fun x7 => nm (v2_1 + 1) (fun x8 => K1 (x7, x8))))))))
def fX6_ways   (now_M : Nat → Int32) : Option Int32 := lp (bX6_ways_4 now_M) FU (1, 0)
theorem in_X6_ways_X6 : ∀ w ∈ wsX60, w ∈ wsX6_ways := by decide +kernel
set_option maxHeartbeats 4000000 in
set_option maxRecDepth 100000 in
theorem ct_X6_ways {l : Launch} {D : va_G} {g : Nat → ClassId} {qa : Nat → Nat} {E0 : Nat → va_E} {ltr_M : Int32} {pos_M : Int32} {num_M : Int32} {isk_M : Int32} {bm_M : Int32} {bch_M : Int32} {lan_M : Nat → Int32} {siz_M : Nat → Int32} {itm_M : Nat → Int64} {tap_M : Nat → Int32} {now_M : Nat → Int32} {tri_M : Nat → Int32} {rd_M : Nat → Int32} {kp_M : Nat → Int32} {bes_M : Nat → Int32} (hG_M : Mo g qa E0 64 ltr_M pos_M num_M isk_M bm_M bch_M lan_M siz_M itm_M tap_M now_M tri_M rd_M kp_M bes_M) {R : Int32} (hf : fX6_ways now_M = some R) : MI l yX6_ways wsX6_ways 0 D g qa E0 [.ref (qa 64)] R (fun E => E = E0) := by
  refine MI.mk (by decide) rfl (Nat.le_of_ble_eq_true rfl) ?_
  intro p e s m args below meth c ls Q X hret hP hS hl
  have hl : lv_has ls 3 [(0, .ref (qa 64))] := hl
  rw [fX6_ways] at hf
  refine lv_iconst (v := 1) X.1 X.2.1 dX6_ways_0 (by decide) ?_
  refine lv_istore_n (lv' := [(1, .int 1), (0, .ref (qa 64))]) X.1 X.2.1 dX6_ways_1 rfl hl (by decide) rfl (fun ls hl => ?_)
  refine lv_iconst (v := 0) X.1 X.2.1 dX6_ways_2 (by decide) ?_
  refine lv_istore_n (lv' := [(2, .int 0), (1, .int 1), (0, .ref (qa 64))]) X.1 X.2.1 dX6_ways_3 rfl hl (by decide) rfl (fun ls hl => ?_)
  have lp1 : ∀ (n1 : Nat) (v1_1 : Int32) (v2_1 : Int32) (H : Heap) (locs : List Loc) (ls : Array Slot), lp (bX6_ways_4 now_M) n1 (v1_1, v2_1) = some R → va_P D vwCl (WD qa E0) H → va_S (gA qa s.heap.size) s.heap H locs → lv_has ls 3 [(0, .ref (qa 64)), (1, .int v1_1), (2, .int v2_1)] → W p l e (rmf 0) s m args below meth c H locs 0 0 Q (F0 m 4 ls []) := by
    intro n1
    induction n1 with
    | zero =>
      intro v1_1 v2_1 H locs ls hf
      exact absurd hf (by intro h; cases h)
    | succ n1 ih1 =>
      intro v1_1 v2_1 H locs ls hf hP hS hl
      have hf : bX6_ways_4 now_M (lp (bX6_ways_4 now_M) n1) (v1_1, v2_1) = some R := hf
      rw [bX6_ways_4] at hf
      refine lv_iload_n X.1 X.2.1 dX6_ways_4 rfl (lv_at hl 2 rfl) ?_
      refine lv_aload_n X.1 X.2.1 dX6_ways_5 rfl (lv_at hl 0 rfl) ?_
      refine x_get X hP hG_M.1 (by omega) rfl in_X6_ways_X6 7 (by decide) (by decide +kernel) rfl rfl dX6_ways_6 ?_
      refine lv_bipush (v := 25) X.1 X.2.1 dX6_ways_9 (by decide) ?_
      obtain ⟨hi2, hf⟩ := gin_of hf
      refine x_iald X hP hG_M.2.2.2.2.2.1 (by omega) hi2 dX6_ways_11 ?_
      refine lv_icmp_ge (tgt := 49) X.1 X.2.1 dX6_ways_12 (by decide) (fun c3 => ?_) (fun c3 => ?_)
      · have hf := ifp hf c3
        refine lv_iload_n X.1 X.2.1 dX6_ways_49 rfl (lv_at hl 1 rfl) ?_
        obtain rfl := Option.some.inj hf
        exact hret _ _ _ _ _ _ dX6_ways_50 rfl rfl (rfl) hP hS
      · have hf := ifn hf c3
        refine lv_iload_n X.1 X.2.1 dX6_ways_15 rfl (lv_at hl 1 rfl) ?_
        refine lv_aload_n X.1 X.2.1 dX6_ways_16 rfl (lv_at hl 0 rfl) ?_
        refine x_get X hP hG_M.1 (by omega) rfl in_X6_ways_X6 7 (by decide) (by decide +kernel) rfl rfl dX6_ways_17 ?_
        refine lv_bipush (v := 13) X.1 X.2.1 dX6_ways_20 (by decide) ?_
        refine lv_iload_n X.1 X.2.1 dX6_ways_22 rfl (lv_at hl 2 rfl) ?_
        refine lv_iadd X.1 X.2.1 dX6_ways_23 ?_
        obtain ⟨hi4, hf⟩ := gin_of hf
        refine x_iald X hP hG_M.2.2.2.2.2.1 (by omega) hi4 dX6_ways_24 ?_
        refine lv_bipush (v := (-4)) X.1 X.2.1 dX6_ways_25 (by decide) ?_
        refine lv_icmp_ne (tgt := 34) X.1 X.2.1 dX6_ways_27 (by decide) (fun c5 => ?_) (fun c5 => ?_)
        · have hf := ifn hf c5
          refine lv_aload_n X.1 X.2.1 dX6_ways_34 rfl (lv_at hl 0 rfl) ?_
          refine x_get X hP hG_M.1 (by omega) rfl in_X6_ways_X6 7 (by decide) (by decide +kernel) rfl rfl dX6_ways_35 ?_
          refine lv_bipush (v := 19) X.1 X.2.1 dX6_ways_38 (by decide) ?_
          obtain ⟨hi6, hf⟩ := gin_of hf
          refine x_iald X hP hG_M.2.2.2.2.2.1 (by omega) hi6 dX6_ways_40 ?_
          refine lv_imul X.1 X.2.1 dX6_ways_41 ?_
          obtain ⟨x7, ex7, hf⟩ := nm_of hf
          refine lv_top_as ex7 ?_
          refine lv_istore_n (lv' := [(1, .int x7), (0, .ref (qa 64)), (2, .int v2_1)]) X.1 X.2.1 dX6_ways_42 rfl hl (by decide) rfl (fun ls hl => ?_)
          obtain ⟨x8, ex8, hf⟩ := nm_of hf
          refine lv_iinc (v := x8) (lv' := [(2, .int x8), (1, .int x7), (0, .ref (qa 64))]) X.1 X.2.1 dX6_ways_43 hl (k := 2) rfl (by rw [ex8]; rfl) (by decide) rfl (fun ls hl => ?_)
          refine lv_goto (tgt := 4) X.1 X.2.1 dX6_ways_46 (by decide) ?_
          exact ih1 x7 x8 _ _ _ hf hP hS (lv_sub hl [2, 1, 0] rfl)
        · have hf := ifp hf c5
          refine lv_iconst (v := 1) X.1 X.2.1 dX6_ways_30 (by decide) ?_
          refine lv_goto (tgt := 41) X.1 X.2.1 dX6_ways_31 (by decide) ?_
          refine lv_imul X.1 X.2.1 dX6_ways_41 ?_
          obtain ⟨x9, ex9, hf⟩ := nm_of hf
          refine lv_top_as ex9 ?_
          refine lv_istore_n (lv' := [(1, .int x9), (0, .ref (qa 64)), (2, .int v2_1)]) X.1 X.2.1 dX6_ways_42 rfl hl (by decide) rfl (fun ls hl => ?_)
          obtain ⟨x10, ex10, hf⟩ := nm_of hf
          refine lv_iinc (v := x10) (lv' := [(2, .int x10), (1, .int x9), (0, .ref (qa 64))]) X.1 X.2.1 dX6_ways_43 hl (k := 2) rfl (by rw [ex10]; rfl) (by decide) rfl (fun ls hl => ?_)
          refine lv_goto (tgt := 4) X.1 X.2.1 dX6_ways_46 (by decide) ?_
          exact ih1 x9 x10 _ _ _ hf hP hS (lv_sub hl [2, 1, 0] rfl)
  exact lp1 FU 1 0 _ _ _ hf hP hS (lv_sub hl [2, 1, 0] rfl)
def bX6_hangBy_19 (now_M : Nat → Int32) (K4 : ((Int32 × Int32 × Int32 × (Nat → Int32))) → Option (Int32 × (Nat → Int32))) : ((Int32 × Int32 × Int32 × (Nat → Int32))) → Option (Int32 × (Nat → Int32))
  | (v2_4, v3_4, v4_4, tri_M_4) => if v4_4 < 0 then (some (v3_4, tri_M_4)) else (gin (13 + v4_4) 191 (if (now_M (Int32.toNatClampNeg (13 + v4_4))) = (-4) then (nm (v4_4 + (-1)) (fun x8 => K4 (v2_4, v3_4, x8, tri_M_4))) else (gin 19 191 (gnz (now_M (Int32.toNatClampNeg 19)) (gin (13 + v4_4) 191 (gin 19 191 (gnz (now_M (Int32.toNatClampNeg 19)) (nm (v2_4 / (now_M (Int32.toNatClampNeg 19))) (fun x14 => gin (13 + v4_4) 191 (gin (13 + v4_4) 191 (if ((upd tri_M_4 (Int32.toNatClampNeg (13 + v4_4)) (v2_4 - v2_4 / (now_M (Int32.toNatClampNeg 19)) * (now_M (Int32.toNatClampNeg 19)))) (Int32.toNatClampNeg (13 + v4_4))) = (now_M (Int32.toNatClampNeg (13 + v4_4))) then (nm (v3_4 + 0) (fun x20 => nm (v4_4 + (-1)) (fun x21 => K4 (x14, x20, x21, upd tri_M_4 (Int32.toNatClampNeg (13 + v4_4)) (v2_4 - v2_4 / (now_M (Int32.toNatClampNeg 19)) * (now_M (Int32.toNatClampNeg 19))))))) else (nm (v3_4 + 1) (fun x18 => nm (v4_4 + (-1)) (fun x19 => K4 (x14, x18, x19, upd tri_M_4 (Int32.toNatClampNeg (13 + v4_4)) (v2_4 - v2_4 / (now_M (Int32.toNatClampNeg 19)) * (now_M (Int32.toNatClampNeg 19))))))))))))))))))
def fX6_hangBy (p1 : Int32)  (now_M : Nat → Int32) (tri_M : Nat → Int32) : Option (Int32 × (Nat → Int32)) := (fX6_begin now_M tri_M).bind (fun r1 => gin 25 191 (nm ((now_M (Int32.toNatClampNeg 25)) - 1) (fun x3 => lp (bX6_hangBy_19 now_M) FU (p1, 0, x3, r1))))
theorem in_X6_hangBy_X6 : ∀ w ∈ wsX60, w ∈ wsX6_hangBy := by decide +kernel
set_option maxHeartbeats 4000000 in
set_option maxRecDepth 100000 in
theorem ct_X6_hangBy {l : Launch} {D : va_G} {g : Nat → ClassId} {qa : Nat → Nat} {E0 : Nat → va_E} {p1 : Int32} {ltr_M : Int32} {pos_M : Int32} {num_M : Int32} {isk_M : Int32} {bm_M : Int32} {bch_M : Int32} {lan_M : Nat → Int32} {siz_M : Nat → Int32} {itm_M : Nat → Int64} {tap_M : Nat → Int32} {now_M : Nat → Int32} {tri_M : Nat → Int32} {rd_M : Nat → Int32} {kp_M : Nat → Int32} {bes_M : Nat → Int32} (hG_M : Mo g qa E0 64 ltr_M pos_M num_M isk_M bm_M bch_M lan_M siz_M itm_M tap_M now_M tri_M rd_M kp_M bes_M) {R : (Int32 × (Nat → Int32))} (hf : fX6_hangBy p1 now_M tri_M = some R) : MI l yX6_hangBy wsX6_hangBy 2 D g qa E0 [.ref (qa 64), .int p1] R.1 (fun E => Mo g qa E 64 ltr_M pos_M num_M isk_M bm_M bch_M lan_M siz_M itm_M tap_M now_M R.2 rd_M kp_M bes_M ∧ ∀ j, (j < 64 ∨ 74 ≤ j) → E j = E0 j) := by
  refine MI.mk (by decide) rfl (Nat.le_of_ble_eq_true rfl) ?_
  intro p e s m args below meth c ls Q X hret hP hS hl
  have hl : lv_has ls 5 [(0, .ref (qa 64)), (1, .int p1)] := hl
  have hfr : ∀ j, (j < 64 ∨ 74 ≤ j) → E0 j = E0 j := fun _ _ => rfl
  rw [fX6_hangBy] at hf
  refine lv_aload_n X.1 X.2.1 dX6_hangBy_0 rfl (lv_at hl 0 rfl) ?_
  obtain ⟨r1, hr1, hf⟩ := bd_of hf
  refine x_callVv X hP hS hG_M.1 (by omega) rfl (n := 0) (As := []) (ct_X6_begin hG_M hr1) gX6_hangBy_X6_begin rfl (by decide +kernel) ⟨by decide, by decide⟩ rfl hl.1 rfl (Nat.le_of_ble_eq_true rfl) dX6_hangBy_1 (fun E H locs hp hP hS => ?_)
  obtain ⟨hW_M, hk⟩ := hp
  have hG_M := hW_M
  have hfr : ∀ j, (j < 64 ∨ 74 ≤ j) → E j = E0 j := fun j o0 => (hk j (by omega)).trans (hfr j o0)
  refine lv_iload_n X.1 X.2.1 dX6_hangBy_4 rfl (lv_at hl 1 rfl) ?_
  refine lv_istore_n (lv' := [(2, .int p1), (0, .ref (qa 64)), (1, .int p1)]) X.1 X.2.1 dX6_hangBy_5 rfl hl (by decide) rfl (fun ls hl => ?_)
  refine lv_iconst (v := 0) X.1 X.2.1 dX6_hangBy_6 (by decide) ?_
  refine lv_istore_n (lv' := [(3, .int 0), (2, .int p1), (0, .ref (qa 64)), (1, .int p1)]) X.1 X.2.1 dX6_hangBy_7 rfl hl (by decide) rfl (fun ls hl => ?_)
  refine lv_aload_n X.1 X.2.1 dX6_hangBy_8 rfl (lv_at hl 2 rfl) ?_
  refine x_get X hP hG_M.1 (by omega) rfl in_X6_hangBy_X6 7 (by decide) (by decide +kernel) rfl rfl dX6_hangBy_9 ?_
  refine lv_bipush (v := 25) X.1 X.2.1 dX6_hangBy_12 (by decide) ?_
  obtain ⟨hi2, hf⟩ := gin_of hf
  refine x_iald X hP hG_M.2.2.2.2.2.1 (by omega) hi2 dX6_hangBy_14 ?_
  refine lv_iconst (v := 1) X.1 X.2.1 dX6_hangBy_15 (by decide) ?_
  refine lv_isub X.1 X.2.1 dX6_hangBy_16 ?_
  obtain ⟨x3, ex3, hf⟩ := nm_of hf
  refine lv_top_as ex3 ?_
  refine lv_istore (lv' := [(4, .int x3), (3, .int 0), (2, .int p1), (0, .ref (qa 64)), (1, .int p1)]) X.1 X.2.1 dX6_hangBy_17 hl (by decide) rfl (fun ls hl => ?_)
  have lp4 : ∀ (n4 : Nat) (v2_4 : Int32) (v3_4 : Int32) (v4_4 : Int32) (tri_M_4 : Nat → Int32) (E : Nat → va_E) (H : Heap) (locs : List Loc) (ls : Array Slot), lp (bX6_hangBy_19 now_M) n4 (v2_4, v3_4, v4_4, tri_M_4) = some R → va_P D vwCl (WD qa E) H → va_S (gA qa s.heap.size) s.heap H locs → Mo g qa E 64 ltr_M pos_M num_M isk_M bm_M bch_M lan_M siz_M itm_M tap_M now_M tri_M_4 rd_M kp_M bes_M → (∀ j, (j < 64 ∨ 74 ≤ j) → E j = E0 j) → lv_has ls 5 [(0, .ref (qa 64)), (1, .int p1), (2, .int v2_4), (3, .int v3_4), (4, .int v4_4)] → W p l e (rmf 2) s m args below meth c H locs 0 0 Q (F0 m 19 ls []) := by
    intro n4
    induction n4 with
    | zero =>
      intro v2_4 v3_4 v4_4 tri_M_4 E H locs ls hf
      exact absurd hf (by intro h; cases h)
    | succ n4 ih4 =>
      intro v2_4 v3_4 v4_4 tri_M_4 E H locs ls hf hP hS hG_M hfr hl
      have hf : bX6_hangBy_19 now_M (lp (bX6_hangBy_19 now_M) n4) (v2_4, v3_4, v4_4, tri_M_4) = some R := hf
      rw [bX6_hangBy_19] at hf
      refine lv_iload X.1 X.2.1 dX6_hangBy_19 (lv_at hl 4 rfl) ?_
      refine lv_if_lt (tgt := 105) X.1 X.2.1 dX6_hangBy_21 (by decide) (fun c5 => ?_) (fun c5 => ?_)
      · have hf := ifp hf c5
        refine lv_iload_n X.1 X.2.1 dX6_hangBy_105 rfl (lv_at hl 3 rfl) ?_
        obtain rfl := Option.some.inj hf
        exact hret _ _ _ _ _ _ dX6_hangBy_106 rfl rfl (⟨hG_M, hfr⟩) hP hS
      · have hf := ifn hf c5
        refine lv_aload_n X.1 X.2.1 dX6_hangBy_24 rfl (lv_at hl 0 rfl) ?_
        refine x_get X hP hG_M.1 (by omega) rfl in_X6_hangBy_X6 7 (by decide) (by decide +kernel) rfl rfl dX6_hangBy_25 ?_
        refine lv_bipush (v := 13) X.1 X.2.1 dX6_hangBy_28 (by decide) ?_
        refine lv_iload X.1 X.2.1 dX6_hangBy_30 (lv_at hl 4 rfl) ?_
        refine lv_iadd X.1 X.2.1 dX6_hangBy_32 ?_
        obtain ⟨hi6, hf⟩ := gin_of hf
        refine x_iald X hP hG_M.2.2.2.2.2.1 (by omega) hi6 dX6_hangBy_33 ?_
        refine lv_bipush (v := (-4)) X.1 X.2.1 dX6_hangBy_34 (by decide) ?_
        refine lv_icmp_eq (tgt := 99) X.1 X.2.1 dX6_hangBy_36 (by decide) (fun c7 => ?_) (fun c7 => ?_)
        · have hf := ifp hf c7
          obtain ⟨x8, ex8, hf⟩ := nm_of hf
          refine lv_iinc (v := x8) (lv' := [(4, .int x8), (0, .ref (qa 64)), (1, .int p1), (2, .int v2_4), (3, .int v3_4)]) X.1 X.2.1 dX6_hangBy_99 hl (k := 4) rfl (by rw [ex8]; rfl) (by decide) rfl (fun ls hl => ?_)
          refine lv_goto (tgt := 19) X.1 X.2.1 dX6_hangBy_102 (by decide) ?_
          exact ih4 v2_4 v3_4 x8 tri_M_4 _ _ _ _ hf hP hS hG_M hfr (lv_sub hl [1, 2, 3, 4, 0] rfl)
        · have hf := ifn hf c7
          refine lv_aload_n X.1 X.2.1 dX6_hangBy_39 rfl (lv_at hl 0 rfl) ?_
          refine x_get X hP hG_M.1 (by omega) rfl in_X6_hangBy_X6 8 (by decide) (by decide +kernel) rfl rfl dX6_hangBy_40 ?_
          refine lv_bipush (v := 13) X.1 X.2.1 dX6_hangBy_43 (by decide) ?_
          refine lv_iload X.1 X.2.1 dX6_hangBy_45 (lv_at hl 4 rfl) ?_
          refine lv_iadd X.1 X.2.1 dX6_hangBy_47 ?_
          refine lv_iload_n X.1 X.2.1 dX6_hangBy_48 rfl (lv_at hl 2 rfl) ?_
          refine lv_aload_n X.1 X.2.1 dX6_hangBy_49 rfl (lv_at hl 0 rfl) ?_
          refine x_get X hP hG_M.1 (by omega) rfl in_X6_hangBy_X6 7 (by decide) (by decide +kernel) rfl rfl dX6_hangBy_50 ?_
          refine lv_bipush (v := 19) X.1 X.2.1 dX6_hangBy_53 (by decide) ?_
          obtain ⟨hi9, hf⟩ := gin_of hf
          refine x_iald X hP hG_M.2.2.2.2.2.1 (by omega) hi9 dX6_hangBy_55 ?_
          obtain ⟨hz10, hf⟩ := gnz_of hf
          refine lv_irem X.1 X.2.1 dX6_hangBy_56 hz10 ?_
          obtain ⟨hi11, hf⟩ := gin_of hf
          refine x_iast X hP hS hG_M.2.2.2.2.2.2.1 (by omega) hi11 dX6_hangBy_57 (fun E H locs h1 hk hP hS => ?_)
          have hG_M := Mo_set_6 hG_M h1 hk
          have hfr : ∀ j, (j < 64 ∨ 74 ≤ j) → E j = E0 j := fun j o0 => (hk j (by omega)).trans (hfr j o0)
          refine lv_iload_n X.1 X.2.1 dX6_hangBy_58 rfl (lv_at hl 2 rfl) ?_
          refine lv_aload_n X.1 X.2.1 dX6_hangBy_59 rfl (lv_at hl 0 rfl) ?_
          refine x_get X hP hG_M.1 (by omega) rfl in_X6_hangBy_X6 7 (by decide) (by decide +kernel) rfl rfl dX6_hangBy_60 ?_
          refine lv_bipush (v := 19) X.1 X.2.1 dX6_hangBy_63 (by decide) ?_
          obtain ⟨hi12, hf⟩ := gin_of hf
          refine x_iald X hP hG_M.2.2.2.2.2.1 (by omega) hi12 dX6_hangBy_65 ?_
          obtain ⟨hz13, hf⟩ := gnz_of hf
          refine lv_idiv X.1 X.2.1 dX6_hangBy_66 hz13 ?_
          obtain ⟨x14, ex14, hf⟩ := nm_of hf
          refine lv_top_as ex14 ?_
          refine lv_istore_n (lv' := [(2, .int x14), (0, .ref (qa 64)), (1, .int p1), (3, .int v3_4), (4, .int v4_4)]) X.1 X.2.1 dX6_hangBy_67 rfl hl (by decide) rfl (fun ls hl => ?_)
          refine lv_iload_n X.1 X.2.1 dX6_hangBy_68 rfl (lv_at hl 3 rfl) ?_
          refine lv_aload_n X.1 X.2.1 dX6_hangBy_69 rfl (lv_at hl 1 rfl) ?_
          refine x_get X hP hG_M.1 (by omega) rfl in_X6_hangBy_X6 8 (by decide) (by decide +kernel) rfl rfl dX6_hangBy_70 ?_
          refine lv_bipush (v := 13) X.1 X.2.1 dX6_hangBy_73 (by decide) ?_
          refine lv_iload X.1 X.2.1 dX6_hangBy_75 (lv_at hl 4 rfl) ?_
          refine lv_iadd X.1 X.2.1 dX6_hangBy_77 ?_
          obtain ⟨hi15, hf⟩ := gin_of hf
          refine x_iald X hP hG_M.2.2.2.2.2.2.1 (by omega) hi15 dX6_hangBy_78 ?_
          refine lv_aload_n X.1 X.2.1 dX6_hangBy_79 rfl (lv_at hl 1 rfl) ?_
          refine x_get X hP hG_M.1 (by omega) rfl in_X6_hangBy_X6 7 (by decide) (by decide +kernel) rfl rfl dX6_hangBy_80 ?_
          refine lv_bipush (v := 13) X.1 X.2.1 dX6_hangBy_83 (by decide) ?_
          refine lv_iload X.1 X.2.1 dX6_hangBy_85 (lv_at hl 4 rfl) ?_
          refine lv_iadd X.1 X.2.1 dX6_hangBy_87 ?_
          obtain ⟨hi16, hf⟩ := gin_of hf
          refine x_iald X hP hG_M.2.2.2.2.2.1 (by omega) hi16 dX6_hangBy_88 ?_
          refine lv_icmp_ne (tgt := 96) X.1 X.2.1 dX6_hangBy_89 (by decide) (fun c17 => ?_) (fun c17 => ?_)
          · have hf := ifn hf c17
            refine lv_iconst (v := 1) X.1 X.2.1 dX6_hangBy_96 (by decide) ?_
            refine lv_iadd X.1 X.2.1 dX6_hangBy_97 ?_
            obtain ⟨x18, ex18, hf⟩ := nm_of hf
            refine lv_top_as ex18 ?_
            refine lv_istore_n (lv' := [(3, .int x18), (2, .int x14), (0, .ref (qa 64)), (1, .int p1), (4, .int v4_4)]) X.1 X.2.1 dX6_hangBy_98 rfl hl (by decide) rfl (fun ls hl => ?_)
            obtain ⟨x19, ex19, hf⟩ := nm_of hf
            refine lv_iinc (v := x19) (lv' := [(4, .int x19), (3, .int x18), (2, .int x14), (0, .ref (qa 64)), (1, .int p1)]) X.1 X.2.1 dX6_hangBy_99 hl (k := 4) rfl (by rw [ex19]; rfl) (by decide) rfl (fun ls hl => ?_)
            refine lv_goto (tgt := 19) X.1 X.2.1 dX6_hangBy_102 (by decide) ?_
            exact ih4 x14 x18 x19 (upd tri_M_4 (Int32.toNatClampNeg (13 + v4_4)) (v2_4 - v2_4 / (now_M (Int32.toNatClampNeg 19)) * (now_M (Int32.toNatClampNeg 19)))) _ _ _ _ hf hP hS hG_M hfr (lv_sub hl [3, 4, 2, 1, 0] rfl)
          · have hf := ifp hf c17
            refine lv_iconst (v := 0) X.1 X.2.1 dX6_hangBy_92 (by decide) ?_
            refine lv_goto (tgt := 97) X.1 X.2.1 dX6_hangBy_93 (by decide) ?_
            refine lv_iadd X.1 X.2.1 dX6_hangBy_97 ?_
            obtain ⟨x20, ex20, hf⟩ := nm_of hf
            refine lv_top_as ex20 ?_
            refine lv_istore_n (lv' := [(3, .int x20), (2, .int x14), (0, .ref (qa 64)), (1, .int p1), (4, .int v4_4)]) X.1 X.2.1 dX6_hangBy_98 rfl hl (by decide) rfl (fun ls hl => ?_)
            obtain ⟨x21, ex21, hf⟩ := nm_of hf
            refine lv_iinc (v := x21) (lv' := [(4, .int x21), (3, .int x20), (2, .int x14), (0, .ref (qa 64)), (1, .int p1)]) X.1 X.2.1 dX6_hangBy_99 hl (k := 4) rfl (by rw [ex21]; rfl) (by decide) rfl (fun ls hl => ?_)
            refine lv_goto (tgt := 19) X.1 X.2.1 dX6_hangBy_102 (by decide) ?_
            exact ih4 x14 x20 x21 (upd tri_M_4 (Int32.toNatClampNeg (13 + v4_4)) (v2_4 - v2_4 / (now_M (Int32.toNatClampNeg 19)) * (now_M (Int32.toNatClampNeg 19)))) _ _ _ _ hf hP hS hG_M hfr (lv_sub hl [3, 4, 2, 1, 0] rfl)
  exact lp4 FU p1 0 x3 r1 _ _ _ _ hf hP hS hG_M hfr (lv_sub hl [3, 4, 2, 1, 0] rfl)
def bX6_error_106 (now_M : Nat → Int32) (p2 : Int32) (v3_4 : Int32) (tri_M_4 : Nat → Int32) (K8 : ((Int32 × Int32)) → Option (Int32 × (Nat → Int32))) : ((Int32 × Int32)) → Option (Int32 × (Nat → Int32))
  | (v4_8, v5_8) => if v5_8 ≤ 0 then (if p2 = 0 then (gnz v4_8 (some (v3_4 / v4_8, tri_M_4))) else ((fX6_ways now_M).bind (fun r11 => gnz v4_8 (some (r11 / v4_8, tri_M_4))))) else (gnz v5_8 (nm (v4_8 - v4_8 / v5_8 * v5_8) (fun x15 => K8 (v5_8, x15))))
def bX6_error_29 (now_M : Nat → Int32) (p2 : Int32) (K4 : ((Int32 × Int32 × (Nat → Int32))) → Option (Int32 × (Nat → Int32))) : ((Int32 × Int32 × (Nat → Int32))) → Option (Int32 × (Nat → Int32))
  | (v3_4, v4_4, tri_M_4) => (fX6_ways now_M).bind (fun r5 => if r5 ≤ v4_4 then ((fX6_ways now_M).bind (fun r7 => lp (bX6_error_106 now_M p2 v3_4 tri_M_4) FU (v3_4, r7))) else ((fX6_hangBy v4_4 now_M tri_M_4).bind (fun r16 => (fX6_bentOnes r16.2).bind (fun r17 => if r17 = 0 then (nm (v3_4 + 1) (fun x21 => nm (v4_4 + 1) (fun x22 => K4 (x21, x22, r16.2)))) else (nm (v3_4 + 0) (fun x19 => nm (v4_4 + 1) (fun x20 => K4 (x19, x20, r16.2))))))))
def bX6_error_106_1 (now_M : Nat → Int32) (p2 : Int32) (v3_27 : Int32) (tri_M_27 : Nat → Int32) (K31 : ((Int32 × Int32)) → Option (Int32 × (Nat → Int32))) : ((Int32 × Int32)) → Option (Int32 × (Nat → Int32))
  | (v4_31, v5_31) => if v5_31 ≤ 0 then (if p2 = 0 then (gnz v4_31 (some (v3_27 / v4_31, tri_M_27))) else ((fX6_ways now_M).bind (fun r34 => gnz v4_31 (some (r34 / v4_31, tri_M_27))))) else (gnz v5_31 (nm (v4_31 - v4_31 / v5_31 * v5_31) (fun x38 => K31 (v5_31, x38))))
def bX6_error_29_1 (now_M : Nat → Int32) (p1 : Int32) (p2 : Int32) (K27 : ((Int32 × Int32 × (Nat → Int32))) → Option (Int32 × (Nat → Int32))) : ((Int32 × Int32 × (Nat → Int32))) → Option (Int32 × (Nat → Int32))
  | (v3_27, v4_27, tri_M_27) => (fX6_ways now_M).bind (fun r28 => if r28 ≤ v4_27 then ((fX6_ways now_M).bind (fun r30 => lp (bX6_error_106_1 now_M p2 v3_27 tri_M_27) FU (v3_27, r30))) else ((fX6_hangBy v4_27 now_M tri_M_27).bind (fun r39 => (fX6_isBent p1 r39.2).bind (fun r40 => if r40 = 0 then (nm (v3_27 + 0) (fun x42 => nm (v4_27 + 1) (fun x43 => K27 (x42, x43, r39.2)))) else (nm (v3_27 + 1) (fun x44 => nm (v4_27 + 1) (fun x45 => K27 (x44, x45, r39.2))))))))
def fX6_error (p1 : Int32) (p2 : Int32)  (now_M : Nat → Int32) (tri_M : Nat → Int32) : Option (Int32 × (Nat → Int32)) := if p1 = (-1) then ((fX6_in p2 0 1).bind (fun r2 => if r2 = 0 then (some ((-1), tri_M)) else (lp (bX6_error_29 now_M p2) FU (0, 0, tri_M)))) else ((fX6_isMan p1 now_M).bind (fun r23 => if r23 = 0 then (some ((-1), tri_M)) else ((fX6_in p2 0 1).bind (fun r25 => if r25 = 0 then (some ((-1), tri_M)) else (lp (bX6_error_29_1 now_M p1 p2) FU (0, 0, tri_M))))))
theorem in_X6_error_X6 : ∀ w ∈ wsX60, w ∈ wsX6_error := by decide +kernel
set_option maxHeartbeats 4000000 in
set_option maxRecDepth 100000 in
theorem ct_X6_error {l : Launch} {D : va_G} {g : Nat → ClassId} {qa : Nat → Nat} {E0 : Nat → va_E} {p1 : Int32} {p2 : Int32} {ltr_M : Int32} {pos_M : Int32} {num_M : Int32} {isk_M : Int32} {bm_M : Int32} {bch_M : Int32} {lan_M : Nat → Int32} {siz_M : Nat → Int32} {itm_M : Nat → Int64} {tap_M : Nat → Int32} {now_M : Nat → Int32} {tri_M : Nat → Int32} {rd_M : Nat → Int32} {kp_M : Nat → Int32} {bes_M : Nat → Int32} (hG_M : Mo g qa E0 64 ltr_M pos_M num_M isk_M bm_M bch_M lan_M siz_M itm_M tap_M now_M tri_M rd_M kp_M bes_M) {R : (Int32 × (Nat → Int32))} (hf : fX6_error p1 p2 now_M tri_M = some R) : MI l yX6_error wsX6_error 5 D g qa E0 [.ref (qa 64), .int p1, .int p2] R.1 (fun E => Mo g qa E 64 ltr_M pos_M num_M isk_M bm_M bch_M lan_M siz_M itm_M tap_M now_M R.2 rd_M kp_M bes_M ∧ ∀ j, (j < 64 ∨ 74 ≤ j) → E j = E0 j) := by
  refine MI.mk (by decide) rfl (Nat.le_of_ble_eq_true rfl) ?_
  intro p e s m args below meth c ls Q X hret hP hS hl
  have hl : lv_has ls 7 [(0, .ref (qa 64)), (1, .int p1), (2, .int p2)] := hl
  have hfr : ∀ j, (j < 64 ∨ 74 ≤ j) → E0 j = E0 j := fun _ _ => rfl
  rw [fX6_error] at hf
  refine lv_iload_n X.1 X.2.1 dX6_error_0 rfl (lv_at hl 1 rfl) ?_
  refine lv_iconst (v := (-1)) X.1 X.2.1 dX6_error_1 (by decide) ?_
  refine lv_icmp_eq (tgt := 13) X.1 X.2.1 dX6_error_2 (by decide) (fun c1 => ?_) (fun c1 => ?_)
  · have hf := ifp hf c1
    refine lv_iload_n X.1 X.2.1 dX6_error_13 rfl (lv_at hl 2 rfl) ?_
    refine lv_iconst (v := 0) X.1 X.2.1 dX6_error_14 (by decide) ?_
    refine lv_iconst (v := 1) X.1 X.2.1 dX6_error_15 (by decide) ?_
    obtain ⟨r2, hr2, hf⟩ := bd_of hf
    refine x_rdSi X hP hS (index := 38) (n := 3) (As := [.int p2, .int 0, .int 1]) (ct_X6_in  hr2) ggX6_error_X6_in (by decide +kernel) (by decide +kernel) (by decide +kernel) rfl (by decide +kernel) ⟨by decide, by decide⟩ rfl hl.1 rfl (Nat.le_of_ble_eq_true rfl) dX6_error_16 (fun H locs hP hS => ?_)
    refine lv_if_ne (tgt := 24) X.1 X.2.1 dX6_error_19 (by decide) (fun c3 => ?_) (fun c3 => ?_)
    · have hf := ifn hf c3
      refine lv_iconst (v := 0) X.1 X.2.1 dX6_error_24 (by decide) ?_
      refine lv_istore_n (lv' := [(3, .int 0), (0, .ref (qa 64)), (1, .int p1), (2, .int p2)]) X.1 X.2.1 dX6_error_25 rfl hl (by decide) rfl (fun ls hl => ?_)
      refine lv_iconst (v := 0) X.1 X.2.1 dX6_error_26 (by decide) ?_
      refine lv_istore (lv' := [(4, .int 0), (3, .int 0), (0, .ref (qa 64)), (1, .int p1), (2, .int p2)]) X.1 X.2.1 dX6_error_27 hl (by decide) rfl (fun ls hl => ?_)
      have lp4 : ∀ (n4 : Nat) (v3_4 : Int32) (v4_4 : Int32) (tri_M_4 : Nat → Int32) (E : Nat → va_E) (H : Heap) (locs : List Loc) (ls : Array Slot), lp (bX6_error_29 now_M p2) n4 (v3_4, v4_4, tri_M_4) = some R → va_P D vwCl (WD qa E) H → va_S (gA qa s.heap.size) s.heap H locs → Mo g qa E 64 ltr_M pos_M num_M isk_M bm_M bch_M lan_M siz_M itm_M tap_M now_M tri_M_4 rd_M kp_M bes_M → (∀ j, (j < 64 ∨ 74 ≤ j) → E j = E0 j) → lv_has ls 7 [(0, .ref (qa 64)), (1, .int p1), (2, .int p2), (3, .int v3_4), (4, .int v4_4)] → W p l e (rmf 5) s m args below meth c H locs 0 0 Q (F0 m 29 ls []) := by
        intro n4
        induction n4 with
        | zero =>
          intro v3_4 v4_4 tri_M_4 E H locs ls hf
          exact absurd hf (by intro h; cases h)
        | succ n4 ih4 =>
          intro v3_4 v4_4 tri_M_4 E H locs ls hf hP hS hG_M hfr hl
          have hf : bX6_error_29 now_M p2 (lp (bX6_error_29 now_M p2) n4) (v3_4, v4_4, tri_M_4) = some R := hf
          rw [bX6_error_29] at hf
          refine lv_iload X.1 X.2.1 dX6_error_29 (lv_at hl 4 rfl) ?_
          refine lv_aload_n X.1 X.2.1 dX6_error_31 rfl (lv_at hl 0 rfl) ?_
          obtain ⟨r5, hr5, hf⟩ := bd_of hf
          refine x_rdVi X hP hS hG_M.1 (by omega) rfl (n := 0) (As := []) (ct_X6_ways hG_M hr5) gX6_error_X6_ways rfl (by decide +kernel) ⟨by decide, by decide⟩ rfl hl.1 rfl (Nat.le_of_ble_eq_true rfl) dX6_error_32 (fun H locs hP hS => ?_)
          refine lv_icmp_ge (tgt := 97) X.1 X.2.1 dX6_error_35 (by decide) (fun c6 => ?_) (fun c6 => ?_)
          · have hf := ifp hf c6
            refine lv_iload_n X.1 X.2.1 dX6_error_97 rfl (lv_at hl 3 rfl) ?_
            refine lv_istore (lv' := [(4, .int v3_4), (0, .ref (qa 64)), (1, .int p1), (2, .int p2), (3, .int v3_4)]) X.1 X.2.1 dX6_error_98 hl (by decide) rfl (fun ls hl => ?_)
            refine lv_aload_n X.1 X.2.1 dX6_error_100 rfl (lv_at hl 1 rfl) ?_
            obtain ⟨r7, hr7, hf⟩ := bd_of hf
            refine x_rdVi X hP hS hG_M.1 (by omega) rfl (n := 0) (As := []) (ct_X6_ways hG_M hr7) gX6_error_X6_ways rfl (by decide +kernel) ⟨by decide, by decide⟩ rfl hl.1 rfl (Nat.le_of_ble_eq_true rfl) dX6_error_101 (fun H locs hP hS => ?_)
            refine lv_istore (lv' := [(5, .int r7), (4, .int v3_4), (0, .ref (qa 64)), (1, .int p1), (2, .int p2), (3, .int v3_4)]) X.1 X.2.1 dX6_error_104 hl (by decide) rfl (fun ls hl => ?_)
            have lp8 : ∀ (n8 : Nat) (v4_8 : Int32) (v5_8 : Int32) (H : Heap) (locs : List Loc) (ls : Array Slot), lp (bX6_error_106 now_M p2 v3_4 tri_M_4) n8 (v4_8, v5_8) = some R → va_P D vwCl (WD qa E) H → va_S (gA qa s.heap.size) s.heap H locs → lv_has ls 7 [(0, .ref (qa 64)), (1, .int p1), (2, .int p2), (3, .int v3_4), (4, .int v4_8), (5, .int v5_8)] → W p l e (rmf 5) s m args below meth c H locs 0 0 Q (F0 m 106 ls []) := by
              intro n8
              induction n8 with
              | zero =>
                intro v4_8 v5_8 H locs ls hf
                exact absurd hf (by intro h; cases h)
              | succ n8 ih8 =>
                intro v4_8 v5_8 H locs ls hf hP hS hl
                have hf : bX6_error_106 now_M p2 v3_4 tri_M_4 (lp (bX6_error_106 now_M p2 v3_4 tri_M_4) n8) (v4_8, v5_8) = some R := hf
                rw [bX6_error_106] at hf
                refine lv_iload X.1 X.2.1 dX6_error_106 (lv_at hl 5 rfl) ?_
                refine lv_if_le (tgt := 129) X.1 X.2.1 dX6_error_108 (by decide) (fun c9 => ?_) (fun c9 => ?_)
                · have hf := ifp hf c9
                  refine lv_iload_n X.1 X.2.1 dX6_error_129 rfl (lv_at hl 2 rfl) ?_
                  refine lv_if_ne (tgt := 137) X.1 X.2.1 dX6_error_130 (by decide) (fun c10 => ?_) (fun c10 => ?_)
                  · have hf := ifn hf c10
                    refine lv_aload_n X.1 X.2.1 dX6_error_137 rfl (lv_at hl 0 rfl) ?_
                    obtain ⟨r11, hr11, hf⟩ := bd_of hf
                    refine x_rdVi X hP hS hG_M.1 (by omega) rfl (n := 0) (As := []) (ct_X6_ways hG_M hr11) gX6_error_X6_ways rfl (by decide +kernel) ⟨by decide, by decide⟩ rfl hl.1 rfl (Nat.le_of_ble_eq_true rfl) dX6_error_138 (fun H locs hP hS => ?_)
                    refine lv_iload X.1 X.2.1 dX6_error_141 (lv_at hl 4 rfl) ?_
                    obtain ⟨hz12, hf⟩ := gnz_of hf
                    refine lv_idiv X.1 X.2.1 dX6_error_143 hz12 ?_
                    obtain rfl := Option.some.inj hf
                    exact hret _ _ _ _ _ _ dX6_error_144 rfl rfl (⟨hG_M, hfr⟩) hP hS
                  · have hf := ifp hf c10
                    refine lv_iload_n X.1 X.2.1 dX6_error_133 rfl (lv_at hl 3 rfl) ?_
                    refine lv_goto (tgt := 141) X.1 X.2.1 dX6_error_134 (by decide) ?_
                    refine lv_iload X.1 X.2.1 dX6_error_141 (lv_at hl 4 rfl) ?_
                    obtain ⟨hz13, hf⟩ := gnz_of hf
                    refine lv_idiv X.1 X.2.1 dX6_error_143 hz13 ?_
                    obtain rfl := Option.some.inj hf
                    exact hret _ _ _ _ _ _ dX6_error_144 rfl rfl (⟨hG_M, hfr⟩) hP hS
                · have hf := ifn hf c9
                  refine lv_iload X.1 X.2.1 dX6_error_111 (lv_at hl 4 rfl) ?_
                  refine lv_iload X.1 X.2.1 dX6_error_113 (lv_at hl 5 rfl) ?_
                  obtain ⟨hz14, hf⟩ := gnz_of hf
                  refine lv_irem X.1 X.2.1 dX6_error_115 hz14 ?_
                  obtain ⟨x15, ex15, hf⟩ := nm_of hf
                  refine lv_top_as ex15 ?_
                  refine lv_istore (lv' := [(6, .int x15), (0, .ref (qa 64)), (1, .int p1), (2, .int p2), (3, .int v3_4), (4, .int v4_8), (5, .int v5_8)]) X.1 X.2.1 dX6_error_116 hl (by decide) rfl (fun ls hl => ?_)
                  refine lv_iload X.1 X.2.1 dX6_error_118 (lv_at hl 6 rfl) ?_
                  refine lv_istore (lv' := [(4, .int v5_8), (6, .int x15), (0, .ref (qa 64)), (1, .int p1), (2, .int p2), (3, .int v3_4), (5, .int v5_8)]) X.1 X.2.1 dX6_error_120 hl (by decide) rfl (fun ls hl => ?_)
                  refine lv_iload X.1 X.2.1 dX6_error_122 (lv_at hl 1 rfl) ?_
                  refine lv_istore (lv' := [(5, .int x15), (4, .int v5_8), (6, .int x15), (0, .ref (qa 64)), (1, .int p1), (2, .int p2), (3, .int v3_4)]) X.1 X.2.1 dX6_error_124 hl (by decide) rfl (fun ls hl => ?_)
                  refine lv_goto (tgt := 106) X.1 X.2.1 dX6_error_126 (by decide) ?_
                  exact ih8 v5_8 x15 _ _ _ hf hP hS (lv_sub hl [3, 4, 5, 6, 1, 0] rfl)
            exact lp8 FU v3_4 r7 _ _ _ hf hP hS (lv_sub hl [2, 3, 4, 5, 1, 0] rfl)
          · have hf := ifn hf c6
            refine lv_aload_n X.1 X.2.1 dX6_error_38 rfl (lv_at hl 0 rfl) ?_
            refine lv_iload X.1 X.2.1 dX6_error_39 (lv_at hl 4 rfl) ?_
            obtain ⟨r16, hr16, hf⟩ := bd_of hf
            refine x_callVi X hP hS hG_M.1 (by omega) rfl (n := 1) (As := [.int v4_4]) (ct_X6_hangBy hG_M hr16) gX6_error_X6_hangBy rfl (by decide +kernel) ⟨by decide, by decide⟩ rfl hl.1 rfl (Nat.le_of_ble_eq_true rfl) dX6_error_41 (fun E H locs hp hP hS => ?_)
            obtain ⟨hW_M, hk⟩ := hp
            have hG_M := hW_M
            have hfr : ∀ j, (j < 64 ∨ 74 ≤ j) → E j = E0 j := fun j o0 => (hk j (by omega)).trans (hfr j o0)
            refine lv_pop X.1 X.2.1 dX6_error_44 rfl ?_
            refine lv_iload_n X.1 X.2.1 dX6_error_45 rfl (lv_at hl 1 rfl) ?_
            refine lv_iconst (v := (-1)) X.1 X.2.1 dX6_error_46 (by decide) ?_
            refine lv_icmp_ne (tgt := 68) X.1 X.2.1 dX6_error_47 (by decide) (fun q => absurd c1 q) (fun _ => ?_)
            refine lv_aload_n X.1 X.2.1 dX6_error_50 rfl (lv_at hl 0 rfl) ?_
            refine x_get X hP hG_M.1 (by omega) rfl in_X6_error_X6 8 (by decide) (by decide +kernel) rfl rfl dX6_error_51 ?_
            obtain ⟨r17, hr17, hf⟩ := bd_of hf
            refine x_rdSi X hP hS (index := 118) (n := 1) (As := [.ref (qa (64 + 6))]) (ct_X6_bentOnes (by omega) hG_M.2.2.2.2.2.2.1 hr17) ggX6_error_X6_bentOnes (by decide +kernel) (by decide +kernel) (by decide +kernel) rfl (by decide +kernel) ⟨by decide, by decide⟩ rfl hl.1 rfl (Nat.le_of_ble_eq_true rfl) dX6_error_54 (fun H locs hP hS => ?_)
            refine lv_if_ne (tgt := 64) X.1 X.2.1 dX6_error_57 (by decide) (fun c18 => ?_) (fun c18 => ?_)
            · have hf := ifn hf c18
              refine lv_iconst (v := 0) X.1 X.2.1 dX6_error_64 (by decide) ?_
              refine lv_goto (tgt := 76) X.1 X.2.1 dX6_error_65 (by decide) ?_
              refine lv_istore (lv' := [(5, .int 0), (0, .ref (qa 64)), (1, .int p1), (2, .int p2), (3, .int v3_4), (4, .int v4_4)]) X.1 X.2.1 dX6_error_76 hl (by decide) rfl (fun ls hl => ?_)
              refine lv_iload_n X.1 X.2.1 dX6_error_78 rfl (lv_at hl 4 rfl) ?_
              refine lv_iload X.1 X.2.1 dX6_error_79 (lv_at hl 0 rfl) ?_
              refine lv_if_eq (tgt := 88) X.1 X.2.1 dX6_error_81 (by decide) (fun _ => ?_) (fun q => absurd (by decide) q)
              refine lv_iconst (v := 0) X.1 X.2.1 dX6_error_88 (by decide) ?_
              refine lv_iadd X.1 X.2.1 dX6_error_89 ?_
              obtain ⟨x19, ex19, hf⟩ := nm_of hf
              refine lv_top_as ex19 ?_
              refine lv_istore_n (lv' := [(3, .int x19), (5, .int 0), (0, .ref (qa 64)), (1, .int p1), (2, .int p2), (4, .int v4_4)]) X.1 X.2.1 dX6_error_90 rfl hl (by decide) rfl (fun ls hl => ?_)
              obtain ⟨x20, ex20, hf⟩ := nm_of hf
              refine lv_iinc (v := x20) (lv' := [(4, .int x20), (3, .int x19), (5, .int 0), (0, .ref (qa 64)), (1, .int p1), (2, .int p2)]) X.1 X.2.1 dX6_error_91 hl (k := 5) rfl (by rw [ex20]; rfl) (by decide) rfl (fun ls hl => ?_)
              refine lv_goto (tgt := 29) X.1 X.2.1 dX6_error_94 (by decide) ?_
              exact ih4 x19 x20 r16.2 _ _ _ _ hf hP hS hG_M hfr (lv_sub hl [3, 4, 5, 1, 0] rfl)
            · have hf := ifp hf c18
              refine lv_iconst (v := 1) X.1 X.2.1 dX6_error_60 (by decide) ?_
              refine lv_goto (tgt := 76) X.1 X.2.1 dX6_error_61 (by decide) ?_
              refine lv_istore (lv' := [(5, .int 1), (0, .ref (qa 64)), (1, .int p1), (2, .int p2), (3, .int v3_4), (4, .int v4_4)]) X.1 X.2.1 dX6_error_76 hl (by decide) rfl (fun ls hl => ?_)
              refine lv_iload_n X.1 X.2.1 dX6_error_78 rfl (lv_at hl 4 rfl) ?_
              refine lv_iload X.1 X.2.1 dX6_error_79 (lv_at hl 0 rfl) ?_
              refine lv_if_eq (tgt := 88) X.1 X.2.1 dX6_error_81 (by decide) (fun q => absurd q (by decide)) (fun _ => ?_)
              refine lv_iconst (v := 1) X.1 X.2.1 dX6_error_84 (by decide) ?_
              refine lv_goto (tgt := 89) X.1 X.2.1 dX6_error_85 (by decide) ?_
              refine lv_iadd X.1 X.2.1 dX6_error_89 ?_
              obtain ⟨x21, ex21, hf⟩ := nm_of hf
              refine lv_top_as ex21 ?_
              refine lv_istore_n (lv' := [(3, .int x21), (5, .int 1), (0, .ref (qa 64)), (1, .int p1), (2, .int p2), (4, .int v4_4)]) X.1 X.2.1 dX6_error_90 rfl hl (by decide) rfl (fun ls hl => ?_)
              obtain ⟨x22, ex22, hf⟩ := nm_of hf
              refine lv_iinc (v := x22) (lv' := [(4, .int x22), (3, .int x21), (5, .int 1), (0, .ref (qa 64)), (1, .int p1), (2, .int p2)]) X.1 X.2.1 dX6_error_91 hl (k := 5) rfl (by rw [ex22]; rfl) (by decide) rfl (fun ls hl => ?_)
              refine lv_goto (tgt := 29) X.1 X.2.1 dX6_error_94 (by decide) ?_
              exact ih4 x21 x22 r16.2 _ _ _ _ hf hP hS hG_M hfr (lv_sub hl [3, 4, 5, 1, 0] rfl)
      exact lp4 FU 0 0 tri_M _ _ _ _ hf hP hS hG_M hfr (lv_sub hl [2, 3, 4, 1, 0] rfl)
    · have hf := ifp hf c3
      refine lv_iconst (v := (-1)) X.1 X.2.1 dX6_error_22 (by decide) ?_
      obtain rfl := Option.some.inj hf
      exact hret _ _ _ _ _ _ dX6_error_23 rfl rfl (⟨hG_M, hfr⟩) hP hS
  · have hf := ifn hf c1
    refine lv_aload_n X.1 X.2.1 dX6_error_5 rfl (lv_at hl 0 rfl) ?_
    refine lv_iload_n X.1 X.2.1 dX6_error_6 rfl (lv_at hl 1 rfl) ?_
    obtain ⟨r23, hr23, hf⟩ := bd_of hf
    refine x_rdVi X hP hS hG_M.1 (by omega) rfl (n := 1) (As := [.int p1]) (ct_X6_isMan hG_M hr23) gX6_error_X6_isMan rfl (by decide +kernel) ⟨by decide, by decide⟩ rfl hl.1 rfl (Nat.le_of_ble_eq_true rfl) dX6_error_7 (fun H locs hP hS => ?_)
    refine lv_if_eq (tgt := 22) X.1 X.2.1 dX6_error_10 (by decide) (fun c24 => ?_) (fun c24 => ?_)
    · have hf := ifp hf c24
      refine lv_iconst (v := (-1)) X.1 X.2.1 dX6_error_22 (by decide) ?_
      obtain rfl := Option.some.inj hf
      exact hret _ _ _ _ _ _ dX6_error_23 rfl rfl (⟨hG_M, hfr⟩) hP hS
    · have hf := ifn hf c24
      refine lv_iload_n X.1 X.2.1 dX6_error_13 rfl (lv_at hl 2 rfl) ?_
      refine lv_iconst (v := 0) X.1 X.2.1 dX6_error_14 (by decide) ?_
      refine lv_iconst (v := 1) X.1 X.2.1 dX6_error_15 (by decide) ?_
      obtain ⟨r25, hr25, hf⟩ := bd_of hf
      refine x_rdSi X hP hS (index := 38) (n := 3) (As := [.int p2, .int 0, .int 1]) (ct_X6_in  hr25) ggX6_error_X6_in (by decide +kernel) (by decide +kernel) (by decide +kernel) rfl (by decide +kernel) ⟨by decide, by decide⟩ rfl hl.1 rfl (Nat.le_of_ble_eq_true rfl) dX6_error_16 (fun H locs hP hS => ?_)
      refine lv_if_ne (tgt := 24) X.1 X.2.1 dX6_error_19 (by decide) (fun c26 => ?_) (fun c26 => ?_)
      · have hf := ifn hf c26
        refine lv_iconst (v := 0) X.1 X.2.1 dX6_error_24 (by decide) ?_
        refine lv_istore_n (lv' := [(3, .int 0), (0, .ref (qa 64)), (1, .int p1), (2, .int p2)]) X.1 X.2.1 dX6_error_25 rfl hl (by decide) rfl (fun ls hl => ?_)
        refine lv_iconst (v := 0) X.1 X.2.1 dX6_error_26 (by decide) ?_
        refine lv_istore (lv' := [(4, .int 0), (3, .int 0), (0, .ref (qa 64)), (1, .int p1), (2, .int p2)]) X.1 X.2.1 dX6_error_27 hl (by decide) rfl (fun ls hl => ?_)
        have lp27 : ∀ (n27 : Nat) (v3_27 : Int32) (v4_27 : Int32) (tri_M_27 : Nat → Int32) (E : Nat → va_E) (H : Heap) (locs : List Loc) (ls : Array Slot), lp (bX6_error_29_1 now_M p1 p2) n27 (v3_27, v4_27, tri_M_27) = some R → va_P D vwCl (WD qa E) H → va_S (gA qa s.heap.size) s.heap H locs → Mo g qa E 64 ltr_M pos_M num_M isk_M bm_M bch_M lan_M siz_M itm_M tap_M now_M tri_M_27 rd_M kp_M bes_M → (∀ j, (j < 64 ∨ 74 ≤ j) → E j = E0 j) → lv_has ls 7 [(0, .ref (qa 64)), (1, .int p1), (2, .int p2), (3, .int v3_27), (4, .int v4_27)] → W p l e (rmf 5) s m args below meth c H locs 0 0 Q (F0 m 29 ls []) := by
          intro n27
          induction n27 with
          | zero =>
            intro v3_27 v4_27 tri_M_27 E H locs ls hf
            exact absurd hf (by intro h; cases h)
          | succ n27 ih27 =>
            intro v3_27 v4_27 tri_M_27 E H locs ls hf hP hS hG_M hfr hl
            have hf : bX6_error_29_1 now_M p1 p2 (lp (bX6_error_29_1 now_M p1 p2) n27) (v3_27, v4_27, tri_M_27) = some R := hf
            rw [bX6_error_29_1] at hf
            refine lv_iload X.1 X.2.1 dX6_error_29 (lv_at hl 4 rfl) ?_
            refine lv_aload_n X.1 X.2.1 dX6_error_31 rfl (lv_at hl 0 rfl) ?_
            obtain ⟨r28, hr28, hf⟩ := bd_of hf
            refine x_rdVi X hP hS hG_M.1 (by omega) rfl (n := 0) (As := []) (ct_X6_ways hG_M hr28) gX6_error_X6_ways rfl (by decide +kernel) ⟨by decide, by decide⟩ rfl hl.1 rfl (Nat.le_of_ble_eq_true rfl) dX6_error_32 (fun H locs hP hS => ?_)
            refine lv_icmp_ge (tgt := 97) X.1 X.2.1 dX6_error_35 (by decide) (fun c29 => ?_) (fun c29 => ?_)
            · have hf := ifp hf c29
              refine lv_iload_n X.1 X.2.1 dX6_error_97 rfl (lv_at hl 3 rfl) ?_
              refine lv_istore (lv' := [(4, .int v3_27), (0, .ref (qa 64)), (1, .int p1), (2, .int p2), (3, .int v3_27)]) X.1 X.2.1 dX6_error_98 hl (by decide) rfl (fun ls hl => ?_)
              refine lv_aload_n X.1 X.2.1 dX6_error_100 rfl (lv_at hl 1 rfl) ?_
              obtain ⟨r30, hr30, hf⟩ := bd_of hf
              refine x_rdVi X hP hS hG_M.1 (by omega) rfl (n := 0) (As := []) (ct_X6_ways hG_M hr30) gX6_error_X6_ways rfl (by decide +kernel) ⟨by decide, by decide⟩ rfl hl.1 rfl (Nat.le_of_ble_eq_true rfl) dX6_error_101 (fun H locs hP hS => ?_)
              refine lv_istore (lv' := [(5, .int r30), (4, .int v3_27), (0, .ref (qa 64)), (1, .int p1), (2, .int p2), (3, .int v3_27)]) X.1 X.2.1 dX6_error_104 hl (by decide) rfl (fun ls hl => ?_)
              have lp31 : ∀ (n31 : Nat) (v4_31 : Int32) (v5_31 : Int32) (H : Heap) (locs : List Loc) (ls : Array Slot), lp (bX6_error_106_1 now_M p2 v3_27 tri_M_27) n31 (v4_31, v5_31) = some R → va_P D vwCl (WD qa E) H → va_S (gA qa s.heap.size) s.heap H locs → lv_has ls 7 [(0, .ref (qa 64)), (1, .int p1), (2, .int p2), (3, .int v3_27), (4, .int v4_31), (5, .int v5_31)] → W p l e (rmf 5) s m args below meth c H locs 0 0 Q (F0 m 106 ls []) := by
                intro n31
                induction n31 with
                | zero =>
                  intro v4_31 v5_31 H locs ls hf
                  exact absurd hf (by intro h; cases h)
                | succ n31 ih31 =>
                  intro v4_31 v5_31 H locs ls hf hP hS hl
                  have hf : bX6_error_106_1 now_M p2 v3_27 tri_M_27 (lp (bX6_error_106_1 now_M p2 v3_27 tri_M_27) n31) (v4_31, v5_31) = some R := hf
                  rw [bX6_error_106_1] at hf
                  refine lv_iload X.1 X.2.1 dX6_error_106 (lv_at hl 5 rfl) ?_
                  refine lv_if_le (tgt := 129) X.1 X.2.1 dX6_error_108 (by decide) (fun c32 => ?_) (fun c32 => ?_)
                  · have hf := ifp hf c32
                    refine lv_iload_n X.1 X.2.1 dX6_error_129 rfl (lv_at hl 2 rfl) ?_
                    refine lv_if_ne (tgt := 137) X.1 X.2.1 dX6_error_130 (by decide) (fun c33 => ?_) (fun c33 => ?_)
                    · have hf := ifn hf c33
                      refine lv_aload_n X.1 X.2.1 dX6_error_137 rfl (lv_at hl 0 rfl) ?_
                      obtain ⟨r34, hr34, hf⟩ := bd_of hf
                      refine x_rdVi X hP hS hG_M.1 (by omega) rfl (n := 0) (As := []) (ct_X6_ways hG_M hr34) gX6_error_X6_ways rfl (by decide +kernel) ⟨by decide, by decide⟩ rfl hl.1 rfl (Nat.le_of_ble_eq_true rfl) dX6_error_138 (fun H locs hP hS => ?_)
                      refine lv_iload X.1 X.2.1 dX6_error_141 (lv_at hl 4 rfl) ?_
                      obtain ⟨hz35, hf⟩ := gnz_of hf
                      refine lv_idiv X.1 X.2.1 dX6_error_143 hz35 ?_
                      obtain rfl := Option.some.inj hf
                      exact hret _ _ _ _ _ _ dX6_error_144 rfl rfl (⟨hG_M, hfr⟩) hP hS
                    · have hf := ifp hf c33
                      refine lv_iload_n X.1 X.2.1 dX6_error_133 rfl (lv_at hl 3 rfl) ?_
                      refine lv_goto (tgt := 141) X.1 X.2.1 dX6_error_134 (by decide) ?_
                      refine lv_iload X.1 X.2.1 dX6_error_141 (lv_at hl 4 rfl) ?_
                      obtain ⟨hz36, hf⟩ := gnz_of hf
                      refine lv_idiv X.1 X.2.1 dX6_error_143 hz36 ?_
                      obtain rfl := Option.some.inj hf
                      exact hret _ _ _ _ _ _ dX6_error_144 rfl rfl (⟨hG_M, hfr⟩) hP hS
                  · have hf := ifn hf c32
                    refine lv_iload X.1 X.2.1 dX6_error_111 (lv_at hl 4 rfl) ?_
                    refine lv_iload X.1 X.2.1 dX6_error_113 (lv_at hl 5 rfl) ?_
                    obtain ⟨hz37, hf⟩ := gnz_of hf
                    refine lv_irem X.1 X.2.1 dX6_error_115 hz37 ?_
                    obtain ⟨x38, ex38, hf⟩ := nm_of hf
                    refine lv_top_as ex38 ?_
                    refine lv_istore (lv' := [(6, .int x38), (0, .ref (qa 64)), (1, .int p1), (2, .int p2), (3, .int v3_27), (4, .int v4_31), (5, .int v5_31)]) X.1 X.2.1 dX6_error_116 hl (by decide) rfl (fun ls hl => ?_)
                    refine lv_iload X.1 X.2.1 dX6_error_118 (lv_at hl 6 rfl) ?_
                    refine lv_istore (lv' := [(4, .int v5_31), (6, .int x38), (0, .ref (qa 64)), (1, .int p1), (2, .int p2), (3, .int v3_27), (5, .int v5_31)]) X.1 X.2.1 dX6_error_120 hl (by decide) rfl (fun ls hl => ?_)
                    refine lv_iload X.1 X.2.1 dX6_error_122 (lv_at hl 1 rfl) ?_
                    refine lv_istore (lv' := [(5, .int x38), (4, .int v5_31), (6, .int x38), (0, .ref (qa 64)), (1, .int p1), (2, .int p2), (3, .int v3_27)]) X.1 X.2.1 dX6_error_124 hl (by decide) rfl (fun ls hl => ?_)
                    refine lv_goto (tgt := 106) X.1 X.2.1 dX6_error_126 (by decide) ?_
                    exact ih31 v5_31 x38 _ _ _ hf hP hS (lv_sub hl [3, 4, 5, 6, 1, 0] rfl)
              exact lp31 FU v3_27 r30 _ _ _ hf hP hS (lv_sub hl [2, 3, 4, 5, 1, 0] rfl)
            · have hf := ifn hf c29
              refine lv_aload_n X.1 X.2.1 dX6_error_38 rfl (lv_at hl 0 rfl) ?_
              refine lv_iload X.1 X.2.1 dX6_error_39 (lv_at hl 4 rfl) ?_
              obtain ⟨r39, hr39, hf⟩ := bd_of hf
              refine x_callVi X hP hS hG_M.1 (by omega) rfl (n := 1) (As := [.int v4_27]) (ct_X6_hangBy hG_M hr39) gX6_error_X6_hangBy rfl (by decide +kernel) ⟨by decide, by decide⟩ rfl hl.1 rfl (Nat.le_of_ble_eq_true rfl) dX6_error_41 (fun E H locs hp hP hS => ?_)
              obtain ⟨hW_M, hk⟩ := hp
              have hG_M := hW_M
              have hfr : ∀ j, (j < 64 ∨ 74 ≤ j) → E j = E0 j := fun j o0 => (hk j (by omega)).trans (hfr j o0)
              refine lv_pop X.1 X.2.1 dX6_error_44 rfl ?_
              refine lv_iload_n X.1 X.2.1 dX6_error_45 rfl (lv_at hl 1 rfl) ?_
              refine lv_iconst (v := (-1)) X.1 X.2.1 dX6_error_46 (by decide) ?_
              refine lv_icmp_ne (tgt := 68) X.1 X.2.1 dX6_error_47 (by decide) (fun _ => ?_) (fun q => absurd q c1)
              refine lv_aload_n X.1 X.2.1 dX6_error_68 rfl (lv_at hl 0 rfl) ?_
              refine x_get X hP hG_M.1 (by omega) rfl in_X6_error_X6 8 (by decide) (by decide +kernel) rfl rfl dX6_error_69 ?_
              refine lv_iload_n X.1 X.2.1 dX6_error_72 rfl (lv_at hl 1 rfl) ?_
              obtain ⟨r40, hr40, hf⟩ := bd_of hf
              refine x_rdSi X hP hS (index := 67) (n := 2) (As := [.ref (qa (64 + 6)), .int p1]) (ct_X6_isBent (by omega) hG_M.2.2.2.2.2.2.1 hr40) ggX6_error_X6_isBent (by decide +kernel) (by decide +kernel) (by decide +kernel) rfl (by decide +kernel) ⟨by decide, by decide⟩ rfl hl.1 rfl (Nat.le_of_ble_eq_true rfl) dX6_error_73 (fun H locs hP hS => ?_)
              refine lv_istore (lv' := [(5, .int r40), (0, .ref (qa 64)), (1, .int p1), (2, .int p2), (3, .int v3_27), (4, .int v4_27)]) X.1 X.2.1 dX6_error_76 hl (by decide) rfl (fun ls hl => ?_)
              refine lv_iload_n X.1 X.2.1 dX6_error_78 rfl (lv_at hl 4 rfl) ?_
              refine lv_iload X.1 X.2.1 dX6_error_79 (lv_at hl 0 rfl) ?_
              refine lv_if_eq (tgt := 88) X.1 X.2.1 dX6_error_81 (by decide) (fun c41 => ?_) (fun c41 => ?_)
              · have hf := ifp hf c41
                refine lv_iconst (v := 0) X.1 X.2.1 dX6_error_88 (by decide) ?_
                refine lv_iadd X.1 X.2.1 dX6_error_89 ?_
                obtain ⟨x42, ex42, hf⟩ := nm_of hf
                refine lv_top_as ex42 ?_
                refine lv_istore_n (lv' := [(3, .int x42), (5, .int r40), (0, .ref (qa 64)), (1, .int p1), (2, .int p2), (4, .int v4_27)]) X.1 X.2.1 dX6_error_90 rfl hl (by decide) rfl (fun ls hl => ?_)
                obtain ⟨x43, ex43, hf⟩ := nm_of hf
                refine lv_iinc (v := x43) (lv' := [(4, .int x43), (3, .int x42), (5, .int r40), (0, .ref (qa 64)), (1, .int p1), (2, .int p2)]) X.1 X.2.1 dX6_error_91 hl (k := 5) rfl (by rw [ex43]; rfl) (by decide) rfl (fun ls hl => ?_)
                refine lv_goto (tgt := 29) X.1 X.2.1 dX6_error_94 (by decide) ?_
                exact ih27 x42 x43 r39.2 _ _ _ _ hf hP hS hG_M hfr (lv_sub hl [3, 4, 5, 1, 0] rfl)
              · have hf := ifn hf c41
                refine lv_iconst (v := 1) X.1 X.2.1 dX6_error_84 (by decide) ?_
                refine lv_goto (tgt := 89) X.1 X.2.1 dX6_error_85 (by decide) ?_
                refine lv_iadd X.1 X.2.1 dX6_error_89 ?_
                obtain ⟨x44, ex44, hf⟩ := nm_of hf
                refine lv_top_as ex44 ?_
                refine lv_istore_n (lv' := [(3, .int x44), (5, .int r40), (0, .ref (qa 64)), (1, .int p1), (2, .int p2), (4, .int v4_27)]) X.1 X.2.1 dX6_error_90 rfl hl (by decide) rfl (fun ls hl => ?_)
                obtain ⟨x45, ex45, hf⟩ := nm_of hf
                refine lv_iinc (v := x45) (lv' := [(4, .int x45), (3, .int x44), (5, .int r40), (0, .ref (qa 64)), (1, .int p1), (2, .int p2)]) X.1 X.2.1 dX6_error_91 hl (k := 5) rfl (by rw [ex45]; rfl) (by decide) rfl (fun ls hl => ?_)
                refine lv_goto (tgt := 29) X.1 X.2.1 dX6_error_94 (by decide) ?_
                exact ih27 x44 x45 r39.2 _ _ _ _ hf hP hS hG_M hfr (lv_sub hl [3, 4, 5, 1, 0] rfl)
        exact lp27 FU 0 0 tri_M _ _ _ _ hf hP hS hG_M hfr (lv_sub hl [2, 3, 4, 1, 0] rfl)
      · have hf := ifp hf c26
        refine lv_iconst (v := (-1)) X.1 X.2.1 dX6_error_22 (by decide) ?_
        obtain rfl := Option.some.inj hf
        exact hret _ _ _ _ _ _ dX6_error_23 rfl rfl (⟨hG_M, hfr⟩) hP hS
def bX6_greatest_4 (arr_s : Nat → Int32) (K1 : ((Int32 × Int32)) → Option Int32) : ((Int32 × Int32)) → Option Int32
  | (v1_1, v2_1) => gin 19 191 (if (arr_s (Int32.toNatClampNeg 19)) ≤ v2_1 then (some v1_1) else ((fX6_load v2_1 arr_s).bind (fun r4 => if r4 ≤ v1_1 then (nm (v2_1 + 1) (fun x6 => K1 (v1_1, x6))) else ((fX6_load v2_1 arr_s).bind (fun r7 => nm (v2_1 + 1) (fun x8 => K1 (r7, x8)))))))
def fX6_greatest   (arr_s : Nat → Int32) : Option Int32 := lp (bX6_greatest_4 arr_s) FU (0, 0)
set_option maxHeartbeats 4000000 in
set_option maxRecDepth 100000 in
theorem ct_X6_greatest {l : Launch} {D : va_G} {g : Nat → ClassId} {qa : Nat → Nat} {E0 : Nat → va_E} {k : Nat} {arr_s : Nat → Int32} (hb_s : k < 74) (hG_s : E0 k = .inl (g 0, 191, .inl arr_s)) {R : Int32} (hf : fX6_greatest arr_s = some R) : MI l yX6_greatest wsX6_greatest 3 D g qa E0 [.ref (qa k)] R (fun E => E = E0) := by
  refine MI.mk (by decide) rfl (Nat.le_of_ble_eq_true rfl) ?_
  intro p e s m args below meth c ls Q X hret hP hS hl
  have hl : lv_has ls 3 [(0, .ref (qa k))] := hl
  rw [fX6_greatest] at hf
  refine lv_iconst (v := 0) X.1 X.2.1 dX6_greatest_0 (by decide) ?_
  refine lv_istore_n (lv' := [(1, .int 0), (0, .ref (qa k))]) X.1 X.2.1 dX6_greatest_1 rfl hl (by decide) rfl (fun ls hl => ?_)
  refine lv_iconst (v := 0) X.1 X.2.1 dX6_greatest_2 (by decide) ?_
  refine lv_istore_n (lv' := [(2, .int 0), (1, .int 0), (0, .ref (qa k))]) X.1 X.2.1 dX6_greatest_3 rfl hl (by decide) rfl (fun ls hl => ?_)
  have lp1 : ∀ (n1 : Nat) (v1_1 : Int32) (v2_1 : Int32) (H : Heap) (locs : List Loc) (ls : Array Slot), lp (bX6_greatest_4 arr_s) n1 (v1_1, v2_1) = some R → va_P D vwCl (WD qa E0) H → va_S (gA qa s.heap.size) s.heap H locs → lv_has ls 3 [(0, .ref (qa k)), (1, .int v1_1), (2, .int v2_1)] → W p l e (rmf 3) s m args below meth c H locs 0 0 Q (F0 m 4 ls []) := by
    intro n1
    induction n1 with
    | zero =>
      intro v1_1 v2_1 H locs ls hf
      exact absurd hf (by intro h; cases h)
    | succ n1 ih1 =>
      intro v1_1 v2_1 H locs ls hf hP hS hl
      have hf : bX6_greatest_4 arr_s (lp (bX6_greatest_4 arr_s) n1) (v1_1, v2_1) = some R := hf
      rw [bX6_greatest_4] at hf
      refine lv_iload_n X.1 X.2.1 dX6_greatest_4 rfl (lv_at hl 2 rfl) ?_
      refine lv_aload_n X.1 X.2.1 dX6_greatest_5 rfl (lv_at hl 0 rfl) ?_
      refine lv_bipush (v := 19) X.1 X.2.1 dX6_greatest_6 (by decide) ?_
      obtain ⟨hi2, hf⟩ := gin_of hf
      refine x_iald X hP hG_s (by omega) hi2 dX6_greatest_8 ?_
      refine lv_icmp_ge (tgt := 37) X.1 X.2.1 dX6_greatest_9 (by decide) (fun c3 => ?_) (fun c3 => ?_)
      · have hf := ifp hf c3
        refine lv_iload_n X.1 X.2.1 dX6_greatest_37 rfl (lv_at hl 1 rfl) ?_
        obtain rfl := Option.some.inj hf
        exact hret _ _ _ _ _ _ dX6_greatest_38 rfl rfl (rfl) hP hS
      · have hf := ifn hf c3
        refine lv_aload_n X.1 X.2.1 dX6_greatest_12 rfl (lv_at hl 0 rfl) ?_
        refine lv_iload_n X.1 X.2.1 dX6_greatest_13 rfl (lv_at hl 2 rfl) ?_
        obtain ⟨r4, hr4, hf⟩ := bd_of hf
        refine x_rdSi X hP hS (index := 64) (n := 2) (As := [.ref (qa k), .int v2_1]) (ct_X6_load (by omega) hG_s hr4) ggX6_greatest_X6_load (by decide +kernel) (by decide +kernel) (by decide +kernel) rfl (by decide +kernel) ⟨by decide, by decide⟩ rfl hl.1 rfl (Nat.le_of_ble_eq_true rfl) dX6_greatest_14 (fun H locs hP hS => ?_)
        refine lv_iload_n X.1 X.2.1 dX6_greatest_17 rfl (lv_at hl 1 rfl) ?_
        refine lv_icmp_le (tgt := 29) X.1 X.2.1 dX6_greatest_18 (by decide) (fun c5 => ?_) (fun c5 => ?_)
        · have hf := ifp hf c5
          refine lv_iload_n X.1 X.2.1 dX6_greatest_29 rfl (lv_at hl 1 rfl) ?_
          refine lv_istore_n (lv' := [(1, .int v1_1), (0, .ref (qa k)), (2, .int v2_1)]) X.1 X.2.1 dX6_greatest_30 rfl hl (by decide) rfl (fun ls hl => ?_)
          obtain ⟨x6, ex6, hf⟩ := nm_of hf
          refine lv_iinc (v := x6) (lv' := [(2, .int x6), (1, .int v1_1), (0, .ref (qa k))]) X.1 X.2.1 dX6_greatest_31 hl (k := 2) rfl (by rw [ex6]; rfl) (by decide) rfl (fun ls hl => ?_)
          refine lv_goto (tgt := 4) X.1 X.2.1 dX6_greatest_34 (by decide) ?_
          exact ih1 v1_1 x6 _ _ _ hf hP hS (lv_sub hl [2, 1, 0] rfl)
        · have hf := ifn hf c5
          refine lv_aload_n X.1 X.2.1 dX6_greatest_21 rfl (lv_at hl 0 rfl) ?_
          refine lv_iload_n X.1 X.2.1 dX6_greatest_22 rfl (lv_at hl 2 rfl) ?_
          obtain ⟨r7, hr7, hf⟩ := bd_of hf
          refine x_rdSi X hP hS (index := 64) (n := 2) (As := [.ref (qa k), .int v2_1]) (ct_X6_load (by omega) hG_s hr7) ggX6_greatest_X6_load (by decide +kernel) (by decide +kernel) (by decide +kernel) rfl (by decide +kernel) ⟨by decide, by decide⟩ rfl hl.1 rfl (Nat.le_of_ble_eq_true rfl) dX6_greatest_23 (fun H locs hP hS => ?_)
          refine lv_goto (tgt := 30) X.1 X.2.1 dX6_greatest_26 (by decide) ?_
          refine lv_istore_n (lv' := [(1, .int r7), (0, .ref (qa k)), (2, .int v2_1)]) X.1 X.2.1 dX6_greatest_30 rfl hl (by decide) rfl (fun ls hl => ?_)
          obtain ⟨x8, ex8, hf⟩ := nm_of hf
          refine lv_iinc (v := x8) (lv' := [(2, .int x8), (1, .int r7), (0, .ref (qa k))]) X.1 X.2.1 dX6_greatest_31 hl (k := 2) rfl (by rw [ex8]; rfl) (by decide) rfl (fun ls hl => ?_)
          refine lv_goto (tgt := 4) X.1 X.2.1 dX6_greatest_34 (by decide) ?_
          exact ih1 r7 x8 _ _ _ hf hP hS (lv_sub hl [2, 1, 0] rfl)
  exact lp1 FU 0 0 _ _ _ hf hP hS (lv_sub hl [2, 1, 0] rfl)
def bX6_layBest_13 (now_M : Nat → Int32) (p1 : Int32) (K1 : ((Int32 × Int32 × Int32 × (Nat → Int32) × (Nat → Int32))) → Option (Int32 × Int32 × (Nat → Int32) × (Nat → Int32))) : ((Int32 × Int32 × Int32 × (Nat → Int32) × (Nat → Int32))) → Option (Int32 × Int32 × (Nat → Int32) × (Nat → Int32))
  | (v2_1, bm_M_1, bch_M_1, tri_M_1, bes_M_1) => (fX6_ways now_M).bind (fun r2 => if r2 ≤ v2_1 then (some (bm_M_1, bch_M_1, tri_M_1, bes_M_1)) else ((fX6_hangBy v2_1 now_M tri_M_1).bind (fun r4 => nm (r4.1) (fun x5 => if p1 = 0 then ((fX6_bentOnes r4.2).bind (fun r7 => (fX6_bits r7).bind (fun r8 => if bm_M_1 = (-4) then ((fX6_bring_d 13 0 6 6 r4.2 bes_M_1).bind (fun r10 => nm (v2_1 + 1) (fun x11 => K1 (x11, r8, x5, r4.2, r10)))) else (if r8 < bm_M_1 then ((fX6_bring_d 13 0 6 6 r4.2 bes_M_1).bind (fun r13 => nm (v2_1 + 1) (fun x14 => K1 (x14, r8, x5, r4.2, r13)))) else (if r8 = bm_M_1 then (if bch_M_1 ≤ x5 then (nm (v2_1 + 1) (fun x18 => K1 (x18, bm_M_1, bch_M_1, r4.2, bes_M_1))) else ((fX6_bring_d 13 0 6 6 r4.2 bes_M_1).bind (fun r19 => nm (v2_1 + 1) (fun x20 => K1 (x20, r8, x5, r4.2, r19))))) else (nm (v2_1 + 1) (fun x16 => K1 (x16, bm_M_1, bch_M_1, r4.2, bes_M_1)))))))) else ((fX6_greatest r4.2).bind (fun r21 => if bm_M_1 = (-4) then ((fX6_bring_d 13 0 6 6 r4.2 bes_M_1).bind (fun r23 => nm (v2_1 + 1) (fun x24 => K1 (x24, r21, x5, r4.2, r23)))) else (if r21 < bm_M_1 then ((fX6_bring_d 13 0 6 6 r4.2 bes_M_1).bind (fun r26 => nm (v2_1 + 1) (fun x27 => K1 (x27, r21, x5, r4.2, r26)))) else (nm (v2_1 + 1) (fun x28 => K1 (x28, bm_M_1, bch_M_1, r4.2, bes_M_1))))))))))
def fX6_layBest (p1 : Int32)  (now_M : Nat → Int32) (tri_M : Nat → Int32) (bes_M : Nat → Int32) : Option (Int32 × Int32 × (Nat → Int32) × (Nat → Int32)) := lp (bX6_layBest_13 now_M p1) FU (0, (-4), 0, tri_M, bes_M)
theorem in_X6_layBest_X6 : ∀ w ∈ wsX60, w ∈ wsX6_layBest := by decide +kernel
set_option maxHeartbeats 4000000 in
set_option maxRecDepth 100000 in
theorem ct_X6_layBest {l : Launch} {D : va_G} {g : Nat → ClassId} {qa : Nat → Nat} {E0 : Nat → va_E} {p1 : Int32} {ltr_M : Int32} {pos_M : Int32} {num_M : Int32} {isk_M : Int32} {bm_M : Int32} {bch_M : Int32} {lan_M : Nat → Int32} {siz_M : Nat → Int32} {itm_M : Nat → Int64} {tap_M : Nat → Int32} {now_M : Nat → Int32} {tri_M : Nat → Int32} {rd_M : Nat → Int32} {kp_M : Nat → Int32} {bes_M : Nat → Int32} (hG_M : Mo g qa E0 64 ltr_M pos_M num_M isk_M bm_M bch_M lan_M siz_M itm_M tap_M now_M tri_M rd_M kp_M bes_M) {R : (Int32 × Int32 × (Nat → Int32) × (Nat → Int32))} (hf : fX6_layBest p1 now_M tri_M bes_M = some R) : MV l yX6_layBest wsX6_layBest 5 D g qa E0 [.ref (qa 64), .int p1] (fun E => Mo g qa E 64 ltr_M pos_M num_M isk_M R.1 R.2.1 lan_M siz_M itm_M tap_M now_M R.2.2.1 rd_M kp_M R.2.2.2 ∧ ∀ j, (j < 64 ∨ 74 ≤ j) → E j = E0 j) := by
  refine MV.mk (by decide) rfl (Nat.le_of_ble_eq_true rfl) ?_
  intro p e s m args below meth c ls Q X hret hP hS hl
  have hl : lv_has ls 6 [(0, .ref (qa 64)), (1, .int p1)] := hl
  have hfr : ∀ j, (j < 64 ∨ 74 ≤ j) → E0 j = E0 j := fun _ _ => rfl
  rw [fX6_layBest] at hf
  refine lv_aload_n X.1 X.2.1 dX6_layBest_0 rfl (lv_at hl 0 rfl) ?_
  refine lv_bipush (v := (-4)) X.1 X.2.1 dX6_layBest_1 (by decide) ?_
  refine x_put (ty := .int) X hP hS hG_M.1 (by omega) rfl in_X6_layBest_X6 tyX6 tyX6_ok nmX6 13 (by decide) (by decide +kernel) rfl rfl (by decide +kernel) rfl rfl (Nat.le_of_ble_eq_true rfl) dX6_layBest_3 (fun E H locs h1 hk hP hS => ?_)
  have hG_M := Mo_set_0 hG_M h1 hk
  have hfr : ∀ j, (j < 64 ∨ 74 ≤ j) → E j = E0 j := fun j o0 => (hk j (by omega)).trans (hfr j o0)
  refine lv_aload_n X.1 X.2.1 dX6_layBest_6 rfl (lv_at hl 0 rfl) ?_
  refine lv_iconst (v := 0) X.1 X.2.1 dX6_layBest_7 (by decide) ?_
  refine x_put (ty := .int) X hP hS hG_M.1 (by omega) rfl in_X6_layBest_X6 tyX6 tyX6_ok nmX6 14 (by decide) (by decide +kernel) rfl rfl (by decide +kernel) rfl rfl (Nat.le_of_ble_eq_true rfl) dX6_layBest_8 (fun E H locs h1 hk hP hS => ?_)
  have hG_M := Mo_set_0 hG_M h1 hk
  have hfr : ∀ j, (j < 64 ∨ 74 ≤ j) → E j = E0 j := fun j o0 => (hk j (by omega)).trans (hfr j o0)
  refine lv_iconst (v := 0) X.1 X.2.1 dX6_layBest_11 (by decide) ?_
  refine lv_istore_n (lv' := [(2, .int 0), (0, .ref (qa 64)), (1, .int p1)]) X.1 X.2.1 dX6_layBest_12 rfl hl (by decide) rfl (fun ls hl => ?_)
  have lp1 : ∀ (n1 : Nat) (v2_1 : Int32) (bm_M_1 : Int32) (bch_M_1 : Int32) (tri_M_1 : Nat → Int32) (bes_M_1 : Nat → Int32) (E : Nat → va_E) (H : Heap) (locs : List Loc) (ls : Array Slot), lp (bX6_layBest_13 now_M p1) n1 (v2_1, bm_M_1, bch_M_1, tri_M_1, bes_M_1) = some R → va_P D vwCl (WD qa E) H → va_S (gA qa s.heap.size) s.heap H locs → Mo g qa E 64 ltr_M pos_M num_M isk_M bm_M_1 bch_M_1 lan_M siz_M itm_M tap_M now_M tri_M_1 rd_M kp_M bes_M_1 → (∀ j, (j < 64 ∨ 74 ≤ j) → E j = E0 j) → lv_has ls 6 [(0, .ref (qa 64)), (1, .int p1), (2, .int v2_1)] → W p l e (rmf 5) s m args below meth c H locs 0 0 Q (F0 m 13 ls []) := by
    intro n1
    induction n1 with
    | zero =>
      intro v2_1 bm_M_1 bch_M_1 tri_M_1 bes_M_1 E H locs ls hf
      exact absurd hf (by intro h; cases h)
    | succ n1 ih1 =>
      intro v2_1 bm_M_1 bch_M_1 tri_M_1 bes_M_1 E H locs ls hf hP hS hG_M hfr hl
      have hf : bX6_layBest_13 now_M p1 (lp (bX6_layBest_13 now_M p1) n1) (v2_1, bm_M_1, bch_M_1, tri_M_1, bes_M_1) = some R := hf
      rw [bX6_layBest_13] at hf
      refine lv_iload_n X.1 X.2.1 dX6_layBest_13 rfl (lv_at hl 2 rfl) ?_
      refine lv_aload_n X.1 X.2.1 dX6_layBest_14 rfl (lv_at hl 0 rfl) ?_
      obtain ⟨r2, hr2, hf⟩ := bd_of hf
      refine x_rdVi X hP hS hG_M.1 (by omega) rfl (n := 0) (As := []) (ct_X6_ways hG_M hr2) gX6_layBest_X6_ways rfl (by decide +kernel) ⟨by decide, by decide⟩ rfl hl.1 rfl (Nat.le_of_ble_eq_true rfl) dX6_layBest_15 (fun H locs hP hS => ?_)
      refine lv_icmp_ge (tgt := 137) X.1 X.2.1 dX6_layBest_18 (by decide) (fun c3 => ?_) (fun c3 => ?_)
      · have hf := ifp hf c3
        obtain rfl := Option.some.inj hf
        exact hret _ _ _ _ _ dX6_layBest_137 (⟨hG_M, hfr⟩) hP hS
      · have hf := ifn hf c3
        refine lv_aload_n X.1 X.2.1 dX6_layBest_21 rfl (lv_at hl 0 rfl) ?_
        refine lv_iload_n X.1 X.2.1 dX6_layBest_22 rfl (lv_at hl 2 rfl) ?_
        obtain ⟨r4, hr4, hf⟩ := bd_of hf
        refine x_callVi X hP hS hG_M.1 (by omega) rfl (n := 1) (As := [.int v2_1]) (ct_X6_hangBy hG_M hr4) gX6_layBest_X6_hangBy rfl (by decide +kernel) ⟨by decide, by decide⟩ rfl hl.1 rfl (Nat.le_of_ble_eq_true rfl) dX6_layBest_23 (fun E H locs hp hP hS => ?_)
        obtain ⟨hW_M, hk⟩ := hp
        have hG_M := hW_M
        have hfr : ∀ j, (j < 64 ∨ 74 ≤ j) → E j = E0 j := fun j o0 => (hk j (by omega)).trans (hfr j o0)
        obtain ⟨x5, ex5, hf⟩ := nm_of hf
        refine lv_top_as ex5 ?_
        refine lv_istore_n (lv' := [(3, .int x5), (0, .ref (qa 64)), (1, .int p1), (2, .int v2_1)]) X.1 X.2.1 dX6_layBest_26 rfl hl (by decide) rfl (fun ls hl => ?_)
        refine lv_iload_n X.1 X.2.1 dX6_layBest_27 rfl (lv_at hl 2 rfl) ?_
        refine lv_if_eq (tgt := 41) X.1 X.2.1 dX6_layBest_28 (by decide) (fun c6 => ?_) (fun c6 => ?_)
        · have hf := ifp hf c6
          refine lv_aload_n X.1 X.2.1 dX6_layBest_41 rfl (lv_at hl 1 rfl) ?_
          refine x_get X hP hG_M.1 (by omega) rfl in_X6_layBest_X6 8 (by decide) (by decide +kernel) rfl rfl dX6_layBest_42 ?_
          obtain ⟨r7, hr7, hf⟩ := bd_of hf
          refine x_rdSi X hP hS (index := 118) (n := 1) (As := [.ref (qa (64 + 6))]) (ct_X6_bentOnes (by omega) hG_M.2.2.2.2.2.2.1 hr7) ggX6_layBest_X6_bentOnes (by decide +kernel) (by decide +kernel) (by decide +kernel) rfl (by decide +kernel) ⟨by decide, by decide⟩ rfl hl.1 rfl (Nat.le_of_ble_eq_true rfl) dX6_layBest_45 (fun H locs hP hS => ?_)
          obtain ⟨r8, hr8, hf⟩ := bd_of hf
          refine x_rdSi X hP hS (index := 57) (n := 1) (As := [.int r7]) (ct_X6_bits  hr8) ggX6_layBest_X6_bits (by decide +kernel) (by decide +kernel) (by decide +kernel) rfl (by decide +kernel) ⟨by decide, by decide⟩ rfl hl.1 rfl (Nat.le_of_ble_eq_true rfl) dX6_layBest_48 (fun H locs hP hS => ?_)
          refine lv_istore (lv' := [(4, .int r8), (3, .int x5), (0, .ref (qa 64)), (1, .int p1), (2, .int v2_1)]) X.1 X.2.1 dX6_layBest_51 hl (by decide) rfl (fun ls hl => ?_)
          refine lv_aload_n X.1 X.2.1 dX6_layBest_53 rfl (lv_at hl 2 rfl) ?_
          refine x_get X hP hG_M.1 (by omega) rfl in_X6_layBest_X6 13 (by decide) (by decide +kernel) rfl rfl dX6_layBest_54 ?_
          refine lv_bipush (v := (-4)) X.1 X.2.1 dX6_layBest_57 (by decide) ?_
          refine lv_icmp_eq (tgt := 92) X.1 X.2.1 dX6_layBest_59 (by decide) (fun c9 => ?_) (fun c9 => ?_)
          · have hf := ifp hf c9
            refine lv_iconst (v := 1) X.1 X.2.1 dX6_layBest_92 (by decide) ?_
            refine lv_goto (tgt := 97) X.1 X.2.1 dX6_layBest_93 (by decide) ?_
            refine lv_istore (lv' := [(5, .int 1), (4, .int r8), (3, .int x5), (0, .ref (qa 64)), (1, .int p1), (2, .int v2_1)]) X.1 X.2.1 dX6_layBest_97 hl (by decide) rfl (fun ls hl => ?_)
            refine lv_iload X.1 X.2.1 dX6_layBest_99 (lv_at hl 0 rfl) ?_
            refine lv_if_eq (tgt := 131) X.1 X.2.1 dX6_layBest_101 (by decide) (fun q => absurd q (by decide)) (fun _ => ?_)
            refine lv_aload_n X.1 X.2.1 dX6_layBest_104 rfl (lv_at hl 3 rfl) ?_
            refine lv_iload X.1 X.2.1 dX6_layBest_105 (lv_at hl 1 rfl) ?_
            refine x_put (ty := .int) X hP hS hG_M.1 (by omega) rfl in_X6_layBest_X6 tyX6 tyX6_ok nmX6 13 (by decide) (by decide +kernel) rfl rfl (by decide +kernel) rfl rfl (Nat.le_of_ble_eq_true rfl) dX6_layBest_107 (fun E H locs h1 hk hP hS => ?_)
            have hG_M := Mo_set_0 hG_M h1 hk
            have hfr : ∀ j, (j < 64 ∨ 74 ≤ j) → E j = E0 j := fun j o0 => (hk j (by omega)).trans (hfr j o0)
            refine lv_aload_n X.1 X.2.1 dX6_layBest_110 rfl (lv_at hl 3 rfl) ?_
            refine lv_iload_n X.1 X.2.1 dX6_layBest_111 rfl (lv_at hl 2 rfl) ?_
            refine x_put (ty := .int) X hP hS hG_M.1 (by omega) rfl in_X6_layBest_X6 tyX6 tyX6_ok nmX6 14 (by decide) (by decide +kernel) rfl rfl (by decide +kernel) rfl rfl (Nat.le_of_ble_eq_true rfl) dX6_layBest_112 (fun E H locs h1 hk hP hS => ?_)
            have hG_M := Mo_set_0 hG_M h1 hk
            have hfr : ∀ j, (j < 64 ∨ 74 ≤ j) → E j = E0 j := fun j o0 => (hk j (by omega)).trans (hfr j o0)
            refine lv_aload_n X.1 X.2.1 dX6_layBest_115 rfl (lv_at hl 3 rfl) ?_
            refine x_get X hP hG_M.1 (by omega) rfl in_X6_layBest_X6 8 (by decide) (by decide +kernel) rfl rfl dX6_layBest_116 ?_
            refine lv_bipush (v := 13) X.1 X.2.1 dX6_layBest_119 (by decide) ?_
            refine lv_aload_n X.1 X.2.1 dX6_layBest_121 rfl (lv_at hl 3 rfl) ?_
            refine x_get X hP hG_M.1 (by omega) rfl in_X6_layBest_X6 12 (by decide) (by decide +kernel) rfl rfl dX6_layBest_122 ?_
            refine lv_iconst (v := 0) X.1 X.2.1 dX6_layBest_125 (by decide) ?_
            refine lv_bipush (v := 6) X.1 X.2.1 dX6_layBest_126 (by decide) ?_
            obtain ⟨r10, hr10, hf⟩ := bd_of hf
            refine x_callSv X hP hS (index := 114) (n := 5) (As := [.ref (qa (64 + 6)), .int 13, .ref (qa (64 + 9)), .int 0, .int 6]) (ct_X6_bring_d (by omega) hG_M.2.2.2.2.2.2.1 (by omega) hG_M.2.2.2.2.2.2.2.2.2 (by omega) hr10) ggX6_layBest_X6_bring (by decide +kernel) (by decide +kernel) (by decide +kernel) rfl (by decide +kernel) ⟨by decide, by decide⟩ rfl hl.1 rfl (Nat.le_of_ble_eq_true rfl) dX6_layBest_128 (fun E H locs hp hP hS => ?_)
            obtain ⟨hW_d, hk⟩ := hp
            have hG_M := Mo_set_9 hG_M hW_d hk
            have hfr : ∀ j, (j < 64 ∨ 74 ≤ j) → E j = E0 j := fun j o0 => (hk j (by omega)).trans (hfr j o0)
            obtain ⟨x11, ex11, hf⟩ := nm_of hf
            refine lv_iinc (v := x11) (lv' := [(2, .int x11), (5, .int 1), (4, .int r8), (3, .int x5), (0, .ref (qa 64)), (1, .int p1)]) X.1 X.2.1 dX6_layBest_131 hl (k := 5) rfl (by rw [ex11]; rfl) (by decide) rfl (fun ls hl => ?_)
            refine lv_goto (tgt := 13) X.1 X.2.1 dX6_layBest_134 (by decide) ?_
            exact ih1 x11 r8 x5 r4.2 r10 _ _ _ _ hf hP hS hG_M hfr (lv_sub hl [4, 5, 0] rfl)
          · have hf := ifn hf c9
            refine lv_iload X.1 X.2.1 dX6_layBest_62 (lv_at hl 0 rfl) ?_
            refine lv_aload_n X.1 X.2.1 dX6_layBest_64 rfl (lv_at hl 2 rfl) ?_
            refine x_get X hP hG_M.1 (by omega) rfl in_X6_layBest_X6 13 (by decide) (by decide +kernel) rfl rfl dX6_layBest_65 ?_
            refine lv_icmp_lt (tgt := 92) X.1 X.2.1 dX6_layBest_68 (by decide) (fun c12 => ?_) (fun c12 => ?_)
            · have hf := ifp hf c12
              refine lv_iconst (v := 1) X.1 X.2.1 dX6_layBest_92 (by decide) ?_
              refine lv_goto (tgt := 97) X.1 X.2.1 dX6_layBest_93 (by decide) ?_
              refine lv_istore (lv' := [(5, .int 1), (4, .int r8), (3, .int x5), (0, .ref (qa 64)), (1, .int p1), (2, .int v2_1)]) X.1 X.2.1 dX6_layBest_97 hl (by decide) rfl (fun ls hl => ?_)
              refine lv_iload X.1 X.2.1 dX6_layBest_99 (lv_at hl 0 rfl) ?_
              refine lv_if_eq (tgt := 131) X.1 X.2.1 dX6_layBest_101 (by decide) (fun q => absurd q (by decide)) (fun _ => ?_)
              refine lv_aload_n X.1 X.2.1 dX6_layBest_104 rfl (lv_at hl 3 rfl) ?_
              refine lv_iload X.1 X.2.1 dX6_layBest_105 (lv_at hl 1 rfl) ?_
              refine x_put (ty := .int) X hP hS hG_M.1 (by omega) rfl in_X6_layBest_X6 tyX6 tyX6_ok nmX6 13 (by decide) (by decide +kernel) rfl rfl (by decide +kernel) rfl rfl (Nat.le_of_ble_eq_true rfl) dX6_layBest_107 (fun E H locs h1 hk hP hS => ?_)
              have hG_M := Mo_set_0 hG_M h1 hk
              have hfr : ∀ j, (j < 64 ∨ 74 ≤ j) → E j = E0 j := fun j o0 => (hk j (by omega)).trans (hfr j o0)
              refine lv_aload_n X.1 X.2.1 dX6_layBest_110 rfl (lv_at hl 3 rfl) ?_
              refine lv_iload_n X.1 X.2.1 dX6_layBest_111 rfl (lv_at hl 2 rfl) ?_
              refine x_put (ty := .int) X hP hS hG_M.1 (by omega) rfl in_X6_layBest_X6 tyX6 tyX6_ok nmX6 14 (by decide) (by decide +kernel) rfl rfl (by decide +kernel) rfl rfl (Nat.le_of_ble_eq_true rfl) dX6_layBest_112 (fun E H locs h1 hk hP hS => ?_)
              have hG_M := Mo_set_0 hG_M h1 hk
              have hfr : ∀ j, (j < 64 ∨ 74 ≤ j) → E j = E0 j := fun j o0 => (hk j (by omega)).trans (hfr j o0)
              refine lv_aload_n X.1 X.2.1 dX6_layBest_115 rfl (lv_at hl 3 rfl) ?_
              refine x_get X hP hG_M.1 (by omega) rfl in_X6_layBest_X6 8 (by decide) (by decide +kernel) rfl rfl dX6_layBest_116 ?_
              refine lv_bipush (v := 13) X.1 X.2.1 dX6_layBest_119 (by decide) ?_
              refine lv_aload_n X.1 X.2.1 dX6_layBest_121 rfl (lv_at hl 3 rfl) ?_
              refine x_get X hP hG_M.1 (by omega) rfl in_X6_layBest_X6 12 (by decide) (by decide +kernel) rfl rfl dX6_layBest_122 ?_
              refine lv_iconst (v := 0) X.1 X.2.1 dX6_layBest_125 (by decide) ?_
              refine lv_bipush (v := 6) X.1 X.2.1 dX6_layBest_126 (by decide) ?_
              obtain ⟨r13, hr13, hf⟩ := bd_of hf
              refine x_callSv X hP hS (index := 114) (n := 5) (As := [.ref (qa (64 + 6)), .int 13, .ref (qa (64 + 9)), .int 0, .int 6]) (ct_X6_bring_d (by omega) hG_M.2.2.2.2.2.2.1 (by omega) hG_M.2.2.2.2.2.2.2.2.2 (by omega) hr13) ggX6_layBest_X6_bring (by decide +kernel) (by decide +kernel) (by decide +kernel) rfl (by decide +kernel) ⟨by decide, by decide⟩ rfl hl.1 rfl (Nat.le_of_ble_eq_true rfl) dX6_layBest_128 (fun E H locs hp hP hS => ?_)
              obtain ⟨hW_d, hk⟩ := hp
              have hG_M := Mo_set_9 hG_M hW_d hk
              have hfr : ∀ j, (j < 64 ∨ 74 ≤ j) → E j = E0 j := fun j o0 => (hk j (by omega)).trans (hfr j o0)
              obtain ⟨x14, ex14, hf⟩ := nm_of hf
              refine lv_iinc (v := x14) (lv' := [(2, .int x14), (5, .int 1), (4, .int r8), (3, .int x5), (0, .ref (qa 64)), (1, .int p1)]) X.1 X.2.1 dX6_layBest_131 hl (k := 5) rfl (by rw [ex14]; rfl) (by decide) rfl (fun ls hl => ?_)
              refine lv_goto (tgt := 13) X.1 X.2.1 dX6_layBest_134 (by decide) ?_
              exact ih1 x14 r8 x5 r4.2 r13 _ _ _ _ hf hP hS hG_M hfr (lv_sub hl [4, 5, 0] rfl)
            · have hf := ifn hf c12
              refine lv_iload_n X.1 X.2.1 dX6_layBest_71 rfl (lv_at hl 3 rfl) ?_
              refine lv_if_ne (tgt := 96) X.1 X.2.1 dX6_layBest_72 (by decide) (fun q => absurd c6 q) (fun _ => ?_)
              refine lv_iload X.1 X.2.1 dX6_layBest_75 (lv_at hl 0 rfl) ?_
              refine lv_aload_n X.1 X.2.1 dX6_layBest_77 rfl (lv_at hl 2 rfl) ?_
              refine x_get X hP hG_M.1 (by omega) rfl in_X6_layBest_X6 13 (by decide) (by decide +kernel) rfl rfl dX6_layBest_78 ?_
              refine lv_icmp_ne (tgt := 96) X.1 X.2.1 dX6_layBest_81 (by decide) (fun c15 => ?_) (fun c15 => ?_)
              · have hf := ifn hf c15
                refine lv_iconst (v := 0) X.1 X.2.1 dX6_layBest_96 (by decide) ?_
                refine lv_istore (lv' := [(5, .int 0), (4, .int r8), (3, .int x5), (0, .ref (qa 64)), (1, .int p1), (2, .int v2_1)]) X.1 X.2.1 dX6_layBest_97 hl (by decide) rfl (fun ls hl => ?_)
                refine lv_iload X.1 X.2.1 dX6_layBest_99 (lv_at hl 0 rfl) ?_
                refine lv_if_eq (tgt := 131) X.1 X.2.1 dX6_layBest_101 (by decide) (fun _ => ?_) (fun q => absurd (by decide) q)
                obtain ⟨x16, ex16, hf⟩ := nm_of hf
                refine lv_iinc (v := x16) (lv' := [(2, .int x16), (5, .int 0), (4, .int r8), (3, .int x5), (0, .ref (qa 64)), (1, .int p1)]) X.1 X.2.1 dX6_layBest_131 hl (k := 5) rfl (by rw [ex16]; rfl) (by decide) rfl (fun ls hl => ?_)
                refine lv_goto (tgt := 13) X.1 X.2.1 dX6_layBest_134 (by decide) ?_
                exact ih1 x16 bm_M_1 bch_M_1 r4.2 bes_M_1 _ _ _ _ hf hP hS hG_M hfr (lv_sub hl [4, 5, 0] rfl)
              · have hf := ifp hf c15
                refine lv_iload_n X.1 X.2.1 dX6_layBest_84 rfl (lv_at hl 1 rfl) ?_
                refine lv_aload_n X.1 X.2.1 dX6_layBest_85 rfl (lv_at hl 2 rfl) ?_
                refine x_get X hP hG_M.1 (by omega) rfl in_X6_layBest_X6 14 (by decide) (by decide +kernel) rfl rfl dX6_layBest_86 ?_
                refine lv_icmp_ge (tgt := 96) X.1 X.2.1 dX6_layBest_89 (by decide) (fun c17 => ?_) (fun c17 => ?_)
                · have hf := ifp hf c17
                  refine lv_iconst (v := 0) X.1 X.2.1 dX6_layBest_96 (by decide) ?_
                  refine lv_istore (lv' := [(5, .int 0), (4, .int r8), (3, .int x5), (0, .ref (qa 64)), (1, .int p1), (2, .int v2_1)]) X.1 X.2.1 dX6_layBest_97 hl (by decide) rfl (fun ls hl => ?_)
                  refine lv_iload X.1 X.2.1 dX6_layBest_99 (lv_at hl 0 rfl) ?_
                  refine lv_if_eq (tgt := 131) X.1 X.2.1 dX6_layBest_101 (by decide) (fun _ => ?_) (fun q => absurd (by decide) q)
                  obtain ⟨x18, ex18, hf⟩ := nm_of hf
                  refine lv_iinc (v := x18) (lv' := [(2, .int x18), (5, .int 0), (4, .int r8), (3, .int x5), (0, .ref (qa 64)), (1, .int p1)]) X.1 X.2.1 dX6_layBest_131 hl (k := 5) rfl (by rw [ex18]; rfl) (by decide) rfl (fun ls hl => ?_)
                  refine lv_goto (tgt := 13) X.1 X.2.1 dX6_layBest_134 (by decide) ?_
                  exact ih1 x18 bm_M_1 bch_M_1 r4.2 bes_M_1 _ _ _ _ hf hP hS hG_M hfr (lv_sub hl [4, 5, 0] rfl)
                · have hf := ifn hf c17
                  refine lv_iconst (v := 1) X.1 X.2.1 dX6_layBest_92 (by decide) ?_
                  refine lv_goto (tgt := 97) X.1 X.2.1 dX6_layBest_93 (by decide) ?_
                  refine lv_istore (lv' := [(5, .int 1), (4, .int r8), (3, .int x5), (0, .ref (qa 64)), (1, .int p1), (2, .int v2_1)]) X.1 X.2.1 dX6_layBest_97 hl (by decide) rfl (fun ls hl => ?_)
                  refine lv_iload X.1 X.2.1 dX6_layBest_99 (lv_at hl 0 rfl) ?_
                  refine lv_if_eq (tgt := 131) X.1 X.2.1 dX6_layBest_101 (by decide) (fun q => absurd q (by decide)) (fun _ => ?_)
                  refine lv_aload_n X.1 X.2.1 dX6_layBest_104 rfl (lv_at hl 3 rfl) ?_
                  refine lv_iload X.1 X.2.1 dX6_layBest_105 (lv_at hl 1 rfl) ?_
                  refine x_put (ty := .int) X hP hS hG_M.1 (by omega) rfl in_X6_layBest_X6 tyX6 tyX6_ok nmX6 13 (by decide) (by decide +kernel) rfl rfl (by decide +kernel) rfl rfl (Nat.le_of_ble_eq_true rfl) dX6_layBest_107 (fun E H locs h1 hk hP hS => ?_)
                  have hG_M := Mo_set_0 hG_M h1 hk
                  have hfr : ∀ j, (j < 64 ∨ 74 ≤ j) → E j = E0 j := fun j o0 => (hk j (by omega)).trans (hfr j o0)
                  refine lv_aload_n X.1 X.2.1 dX6_layBest_110 rfl (lv_at hl 3 rfl) ?_
                  refine lv_iload_n X.1 X.2.1 dX6_layBest_111 rfl (lv_at hl 2 rfl) ?_
                  refine x_put (ty := .int) X hP hS hG_M.1 (by omega) rfl in_X6_layBest_X6 tyX6 tyX6_ok nmX6 14 (by decide) (by decide +kernel) rfl rfl (by decide +kernel) rfl rfl (Nat.le_of_ble_eq_true rfl) dX6_layBest_112 (fun E H locs h1 hk hP hS => ?_)
                  have hG_M := Mo_set_0 hG_M h1 hk
                  have hfr : ∀ j, (j < 64 ∨ 74 ≤ j) → E j = E0 j := fun j o0 => (hk j (by omega)).trans (hfr j o0)
                  refine lv_aload_n X.1 X.2.1 dX6_layBest_115 rfl (lv_at hl 3 rfl) ?_
                  refine x_get X hP hG_M.1 (by omega) rfl in_X6_layBest_X6 8 (by decide) (by decide +kernel) rfl rfl dX6_layBest_116 ?_
                  refine lv_bipush (v := 13) X.1 X.2.1 dX6_layBest_119 (by decide) ?_
                  refine lv_aload_n X.1 X.2.1 dX6_layBest_121 rfl (lv_at hl 3 rfl) ?_
                  refine x_get X hP hG_M.1 (by omega) rfl in_X6_layBest_X6 12 (by decide) (by decide +kernel) rfl rfl dX6_layBest_122 ?_
                  refine lv_iconst (v := 0) X.1 X.2.1 dX6_layBest_125 (by decide) ?_
                  refine lv_bipush (v := 6) X.1 X.2.1 dX6_layBest_126 (by decide) ?_
                  obtain ⟨r19, hr19, hf⟩ := bd_of hf
                  refine x_callSv X hP hS (index := 114) (n := 5) (As := [.ref (qa (64 + 6)), .int 13, .ref (qa (64 + 9)), .int 0, .int 6]) (ct_X6_bring_d (by omega) hG_M.2.2.2.2.2.2.1 (by omega) hG_M.2.2.2.2.2.2.2.2.2 (by omega) hr19) ggX6_layBest_X6_bring (by decide +kernel) (by decide +kernel) (by decide +kernel) rfl (by decide +kernel) ⟨by decide, by decide⟩ rfl hl.1 rfl (Nat.le_of_ble_eq_true rfl) dX6_layBest_128 (fun E H locs hp hP hS => ?_)
                  obtain ⟨hW_d, hk⟩ := hp
                  have hG_M := Mo_set_9 hG_M hW_d hk
                  have hfr : ∀ j, (j < 64 ∨ 74 ≤ j) → E j = E0 j := fun j o0 => (hk j (by omega)).trans (hfr j o0)
                  obtain ⟨x20, ex20, hf⟩ := nm_of hf
                  refine lv_iinc (v := x20) (lv' := [(2, .int x20), (5, .int 1), (4, .int r8), (3, .int x5), (0, .ref (qa 64)), (1, .int p1)]) X.1 X.2.1 dX6_layBest_131 hl (k := 5) rfl (by rw [ex20]; rfl) (by decide) rfl (fun ls hl => ?_)
                  refine lv_goto (tgt := 13) X.1 X.2.1 dX6_layBest_134 (by decide) ?_
                  exact ih1 x20 r8 x5 r4.2 r19 _ _ _ _ hf hP hS hG_M hfr (lv_sub hl [4, 5, 0] rfl)
        · have hf := ifn hf c6
          refine lv_aload_n X.1 X.2.1 dX6_layBest_31 rfl (lv_at hl 1 rfl) ?_
          refine x_get X hP hG_M.1 (by omega) rfl in_X6_layBest_X6 8 (by decide) (by decide +kernel) rfl rfl dX6_layBest_32 ?_
          obtain ⟨r21, hr21, hf⟩ := bd_of hf
          refine x_rdSi X hP hS (index := 161) (n := 1) (As := [.ref (qa (64 + 6))]) (ct_X6_greatest (by omega) hG_M.2.2.2.2.2.2.1 hr21) ggX6_layBest_X6_greatest (by decide +kernel) (by decide +kernel) (by decide +kernel) rfl (by decide +kernel) ⟨by decide, by decide⟩ rfl hl.1 rfl (Nat.le_of_ble_eq_true rfl) dX6_layBest_35 (fun H locs hP hS => ?_)
          refine lv_goto (tgt := 51) X.1 X.2.1 dX6_layBest_38 (by decide) ?_
          refine lv_istore (lv' := [(4, .int r21), (3, .int x5), (0, .ref (qa 64)), (1, .int p1), (2, .int v2_1)]) X.1 X.2.1 dX6_layBest_51 hl (by decide) rfl (fun ls hl => ?_)
          refine lv_aload_n X.1 X.2.1 dX6_layBest_53 rfl (lv_at hl 2 rfl) ?_
          refine x_get X hP hG_M.1 (by omega) rfl in_X6_layBest_X6 13 (by decide) (by decide +kernel) rfl rfl dX6_layBest_54 ?_
          refine lv_bipush (v := (-4)) X.1 X.2.1 dX6_layBest_57 (by decide) ?_
          refine lv_icmp_eq (tgt := 92) X.1 X.2.1 dX6_layBest_59 (by decide) (fun c22 => ?_) (fun c22 => ?_)
          · have hf := ifp hf c22
            refine lv_iconst (v := 1) X.1 X.2.1 dX6_layBest_92 (by decide) ?_
            refine lv_goto (tgt := 97) X.1 X.2.1 dX6_layBest_93 (by decide) ?_
            refine lv_istore (lv' := [(5, .int 1), (4, .int r21), (3, .int x5), (0, .ref (qa 64)), (1, .int p1), (2, .int v2_1)]) X.1 X.2.1 dX6_layBest_97 hl (by decide) rfl (fun ls hl => ?_)
            refine lv_iload X.1 X.2.1 dX6_layBest_99 (lv_at hl 0 rfl) ?_
            refine lv_if_eq (tgt := 131) X.1 X.2.1 dX6_layBest_101 (by decide) (fun q => absurd q (by decide)) (fun _ => ?_)
            refine lv_aload_n X.1 X.2.1 dX6_layBest_104 rfl (lv_at hl 3 rfl) ?_
            refine lv_iload X.1 X.2.1 dX6_layBest_105 (lv_at hl 1 rfl) ?_
            refine x_put (ty := .int) X hP hS hG_M.1 (by omega) rfl in_X6_layBest_X6 tyX6 tyX6_ok nmX6 13 (by decide) (by decide +kernel) rfl rfl (by decide +kernel) rfl rfl (Nat.le_of_ble_eq_true rfl) dX6_layBest_107 (fun E H locs h1 hk hP hS => ?_)
            have hG_M := Mo_set_0 hG_M h1 hk
            have hfr : ∀ j, (j < 64 ∨ 74 ≤ j) → E j = E0 j := fun j o0 => (hk j (by omega)).trans (hfr j o0)
            refine lv_aload_n X.1 X.2.1 dX6_layBest_110 rfl (lv_at hl 3 rfl) ?_
            refine lv_iload_n X.1 X.2.1 dX6_layBest_111 rfl (lv_at hl 2 rfl) ?_
            refine x_put (ty := .int) X hP hS hG_M.1 (by omega) rfl in_X6_layBest_X6 tyX6 tyX6_ok nmX6 14 (by decide) (by decide +kernel) rfl rfl (by decide +kernel) rfl rfl (Nat.le_of_ble_eq_true rfl) dX6_layBest_112 (fun E H locs h1 hk hP hS => ?_)
            have hG_M := Mo_set_0 hG_M h1 hk
            have hfr : ∀ j, (j < 64 ∨ 74 ≤ j) → E j = E0 j := fun j o0 => (hk j (by omega)).trans (hfr j o0)
            refine lv_aload_n X.1 X.2.1 dX6_layBest_115 rfl (lv_at hl 3 rfl) ?_
            refine x_get X hP hG_M.1 (by omega) rfl in_X6_layBest_X6 8 (by decide) (by decide +kernel) rfl rfl dX6_layBest_116 ?_
            refine lv_bipush (v := 13) X.1 X.2.1 dX6_layBest_119 (by decide) ?_
            refine lv_aload_n X.1 X.2.1 dX6_layBest_121 rfl (lv_at hl 3 rfl) ?_
            refine x_get X hP hG_M.1 (by omega) rfl in_X6_layBest_X6 12 (by decide) (by decide +kernel) rfl rfl dX6_layBest_122 ?_
            refine lv_iconst (v := 0) X.1 X.2.1 dX6_layBest_125 (by decide) ?_
            refine lv_bipush (v := 6) X.1 X.2.1 dX6_layBest_126 (by decide) ?_
            obtain ⟨r23, hr23, hf⟩ := bd_of hf
            refine x_callSv X hP hS (index := 114) (n := 5) (As := [.ref (qa (64 + 6)), .int 13, .ref (qa (64 + 9)), .int 0, .int 6]) (ct_X6_bring_d (by omega) hG_M.2.2.2.2.2.2.1 (by omega) hG_M.2.2.2.2.2.2.2.2.2 (by omega) hr23) ggX6_layBest_X6_bring (by decide +kernel) (by decide +kernel) (by decide +kernel) rfl (by decide +kernel) ⟨by decide, by decide⟩ rfl hl.1 rfl (Nat.le_of_ble_eq_true rfl) dX6_layBest_128 (fun E H locs hp hP hS => ?_)
            obtain ⟨hW_d, hk⟩ := hp
            have hG_M := Mo_set_9 hG_M hW_d hk
            have hfr : ∀ j, (j < 64 ∨ 74 ≤ j) → E j = E0 j := fun j o0 => (hk j (by omega)).trans (hfr j o0)
            obtain ⟨x24, ex24, hf⟩ := nm_of hf
            refine lv_iinc (v := x24) (lv' := [(2, .int x24), (5, .int 1), (4, .int r21), (3, .int x5), (0, .ref (qa 64)), (1, .int p1)]) X.1 X.2.1 dX6_layBest_131 hl (k := 5) rfl (by rw [ex24]; rfl) (by decide) rfl (fun ls hl => ?_)
            refine lv_goto (tgt := 13) X.1 X.2.1 dX6_layBest_134 (by decide) ?_
            exact ih1 x24 r21 x5 r4.2 r23 _ _ _ _ hf hP hS hG_M hfr (lv_sub hl [4, 5, 0] rfl)
          · have hf := ifn hf c22
            refine lv_iload X.1 X.2.1 dX6_layBest_62 (lv_at hl 0 rfl) ?_
            refine lv_aload_n X.1 X.2.1 dX6_layBest_64 rfl (lv_at hl 2 rfl) ?_
            refine x_get X hP hG_M.1 (by omega) rfl in_X6_layBest_X6 13 (by decide) (by decide +kernel) rfl rfl dX6_layBest_65 ?_
            refine lv_icmp_lt (tgt := 92) X.1 X.2.1 dX6_layBest_68 (by decide) (fun c25 => ?_) (fun c25 => ?_)
            · have hf := ifp hf c25
              refine lv_iconst (v := 1) X.1 X.2.1 dX6_layBest_92 (by decide) ?_
              refine lv_goto (tgt := 97) X.1 X.2.1 dX6_layBest_93 (by decide) ?_
              refine lv_istore (lv' := [(5, .int 1), (4, .int r21), (3, .int x5), (0, .ref (qa 64)), (1, .int p1), (2, .int v2_1)]) X.1 X.2.1 dX6_layBest_97 hl (by decide) rfl (fun ls hl => ?_)
              refine lv_iload X.1 X.2.1 dX6_layBest_99 (lv_at hl 0 rfl) ?_
              refine lv_if_eq (tgt := 131) X.1 X.2.1 dX6_layBest_101 (by decide) (fun q => absurd q (by decide)) (fun _ => ?_)
              refine lv_aload_n X.1 X.2.1 dX6_layBest_104 rfl (lv_at hl 3 rfl) ?_
              refine lv_iload X.1 X.2.1 dX6_layBest_105 (lv_at hl 1 rfl) ?_
              refine x_put (ty := .int) X hP hS hG_M.1 (by omega) rfl in_X6_layBest_X6 tyX6 tyX6_ok nmX6 13 (by decide) (by decide +kernel) rfl rfl (by decide +kernel) rfl rfl (Nat.le_of_ble_eq_true rfl) dX6_layBest_107 (fun E H locs h1 hk hP hS => ?_)
              have hG_M := Mo_set_0 hG_M h1 hk
              have hfr : ∀ j, (j < 64 ∨ 74 ≤ j) → E j = E0 j := fun j o0 => (hk j (by omega)).trans (hfr j o0)
              refine lv_aload_n X.1 X.2.1 dX6_layBest_110 rfl (lv_at hl 3 rfl) ?_
              refine lv_iload_n X.1 X.2.1 dX6_layBest_111 rfl (lv_at hl 2 rfl) ?_
              refine x_put (ty := .int) X hP hS hG_M.1 (by omega) rfl in_X6_layBest_X6 tyX6 tyX6_ok nmX6 14 (by decide) (by decide +kernel) rfl rfl (by decide +kernel) rfl rfl (Nat.le_of_ble_eq_true rfl) dX6_layBest_112 (fun E H locs h1 hk hP hS => ?_)
              have hG_M := Mo_set_0 hG_M h1 hk
              have hfr : ∀ j, (j < 64 ∨ 74 ≤ j) → E j = E0 j := fun j o0 => (hk j (by omega)).trans (hfr j o0)
              refine lv_aload_n X.1 X.2.1 dX6_layBest_115 rfl (lv_at hl 3 rfl) ?_
              refine x_get X hP hG_M.1 (by omega) rfl in_X6_layBest_X6 8 (by decide) (by decide +kernel) rfl rfl dX6_layBest_116 ?_
              refine lv_bipush (v := 13) X.1 X.2.1 dX6_layBest_119 (by decide) ?_
              refine lv_aload_n X.1 X.2.1 dX6_layBest_121 rfl (lv_at hl 3 rfl) ?_
              refine x_get X hP hG_M.1 (by omega) rfl in_X6_layBest_X6 12 (by decide) (by decide +kernel) rfl rfl dX6_layBest_122 ?_
              refine lv_iconst (v := 0) X.1 X.2.1 dX6_layBest_125 (by decide) ?_
              refine lv_bipush (v := 6) X.1 X.2.1 dX6_layBest_126 (by decide) ?_
              obtain ⟨r26, hr26, hf⟩ := bd_of hf
              refine x_callSv X hP hS (index := 114) (n := 5) (As := [.ref (qa (64 + 6)), .int 13, .ref (qa (64 + 9)), .int 0, .int 6]) (ct_X6_bring_d (by omega) hG_M.2.2.2.2.2.2.1 (by omega) hG_M.2.2.2.2.2.2.2.2.2 (by omega) hr26) ggX6_layBest_X6_bring (by decide +kernel) (by decide +kernel) (by decide +kernel) rfl (by decide +kernel) ⟨by decide, by decide⟩ rfl hl.1 rfl (Nat.le_of_ble_eq_true rfl) dX6_layBest_128 (fun E H locs hp hP hS => ?_)
              obtain ⟨hW_d, hk⟩ := hp
              have hG_M := Mo_set_9 hG_M hW_d hk
              have hfr : ∀ j, (j < 64 ∨ 74 ≤ j) → E j = E0 j := fun j o0 => (hk j (by omega)).trans (hfr j o0)
              obtain ⟨x27, ex27, hf⟩ := nm_of hf
              refine lv_iinc (v := x27) (lv' := [(2, .int x27), (5, .int 1), (4, .int r21), (3, .int x5), (0, .ref (qa 64)), (1, .int p1)]) X.1 X.2.1 dX6_layBest_131 hl (k := 5) rfl (by rw [ex27]; rfl) (by decide) rfl (fun ls hl => ?_)
              refine lv_goto (tgt := 13) X.1 X.2.1 dX6_layBest_134 (by decide) ?_
              exact ih1 x27 r21 x5 r4.2 r26 _ _ _ _ hf hP hS hG_M hfr (lv_sub hl [4, 5, 0] rfl)
            · have hf := ifn hf c25
              refine lv_iload_n X.1 X.2.1 dX6_layBest_71 rfl (lv_at hl 3 rfl) ?_
              refine lv_if_ne (tgt := 96) X.1 X.2.1 dX6_layBest_72 (by decide) (fun _ => ?_) (fun q => absurd q c6)
              refine lv_iconst (v := 0) X.1 X.2.1 dX6_layBest_96 (by decide) ?_
              refine lv_istore (lv' := [(5, .int 0), (4, .int r21), (3, .int x5), (0, .ref (qa 64)), (1, .int p1), (2, .int v2_1)]) X.1 X.2.1 dX6_layBest_97 hl (by decide) rfl (fun ls hl => ?_)
              refine lv_iload X.1 X.2.1 dX6_layBest_99 (lv_at hl 0 rfl) ?_
              refine lv_if_eq (tgt := 131) X.1 X.2.1 dX6_layBest_101 (by decide) (fun _ => ?_) (fun q => absurd (by decide) q)
              obtain ⟨x28, ex28, hf⟩ := nm_of hf
              refine lv_iinc (v := x28) (lv' := [(2, .int x28), (5, .int 0), (4, .int r21), (3, .int x5), (0, .ref (qa 64)), (1, .int p1)]) X.1 X.2.1 dX6_layBest_131 hl (k := 5) rfl (by rw [ex28]; rfl) (by decide) rfl (fun ls hl => ?_)
              refine lv_goto (tgt := 13) X.1 X.2.1 dX6_layBest_134 (by decide) ?_
              exact ih1 x28 bm_M_1 bch_M_1 r4.2 bes_M_1 _ _ _ _ hf hP hS hG_M hfr (lv_sub hl [4, 5, 0] rfl)
  exact lp1 FU 0 (-4) 0 tri_M bes_M _ _ _ _ hf hP hS hG_M hfr (lv_sub hl [1, 2, 0] rfl)
def fX6_even (p1 : Int32)  (bm_M : Int32) (bch_M : Int32) (now_M : Nat → Int32) (tri_M : Nat → Int32) (bes_M : Nat → Int32) : Option (Int32 × Int32 × Int32 × (Nat → Int32) × (Nat → Int32)) := if (-1) ≤ p1 then ((fX6_layBest 1 now_M tri_M bes_M).bind (fun r2 => if p1 = (-1) then (some (r2.1, r2.1, r2.2.1, r2.2.2.1, r2.2.2.2)) else ((fX6_isMedal p1 now_M).bind (fun r4 => if r4 = 0 then (some ((-4), r2.1, r2.2.1, r2.2.2.1, r2.2.2.2)) else (gin p1 6 (some (r2.2.2.2 (Int32.toNatClampNeg p1), r2.1, r2.2.1, r2.2.2.1, r2.2.2.2))))))) else (some ((-1), bm_M, bch_M, tri_M, bes_M))
theorem in_X6_even_X6 : ∀ w ∈ wsX60, w ∈ wsX6_even := by decide +kernel
set_option maxHeartbeats 4000000 in
set_option maxRecDepth 100000 in
theorem ct_X6_even {l : Launch} {D : va_G} {g : Nat → ClassId} {qa : Nat → Nat} {E0 : Nat → va_E} {p1 : Int32} {ltr_M : Int32} {pos_M : Int32} {num_M : Int32} {isk_M : Int32} {bm_M : Int32} {bch_M : Int32} {lan_M : Nat → Int32} {siz_M : Nat → Int32} {itm_M : Nat → Int64} {tap_M : Nat → Int32} {now_M : Nat → Int32} {tri_M : Nat → Int32} {rd_M : Nat → Int32} {kp_M : Nat → Int32} {bes_M : Nat → Int32} (hG_M : Mo g qa E0 64 ltr_M pos_M num_M isk_M bm_M bch_M lan_M siz_M itm_M tap_M now_M tri_M rd_M kp_M bes_M) {R : (Int32 × Int32 × Int32 × (Nat → Int32) × (Nat → Int32))} (hf : fX6_even p1 bm_M bch_M now_M tri_M bes_M = some R) : MI l yX6_even wsX6_even 6 D g qa E0 [.ref (qa 64), .int p1] R.1 (fun E => Mo g qa E 64 ltr_M pos_M num_M isk_M R.2.1 R.2.2.1 lan_M siz_M itm_M tap_M now_M R.2.2.2.1 rd_M kp_M R.2.2.2.2 ∧ ∀ j, (j < 64 ∨ 74 ≤ j) → E j = E0 j) := by
  refine MI.mk (by decide) rfl (Nat.le_of_ble_eq_true rfl) ?_
  intro p e s m args below meth c ls Q X hret hP hS hl
  have hl : lv_has ls 2 [(0, .ref (qa 64)), (1, .int p1)] := hl
  have hfr : ∀ j, (j < 64 ∨ 74 ≤ j) → E0 j = E0 j := fun _ _ => rfl
  rw [fX6_even] at hf
  refine lv_iload_n X.1 X.2.1 dX6_even_0 rfl (lv_at hl 1 rfl) ?_
  refine lv_iconst (v := (-1)) X.1 X.2.1 dX6_even_1 (by decide) ?_
  refine lv_icmp_ge (tgt := 7) X.1 X.2.1 dX6_even_2 (by decide) (fun c1 => ?_) (fun c1 => ?_)
  · have hf := ifp hf c1
    refine lv_aload_n X.1 X.2.1 dX6_even_7 rfl (lv_at hl 0 rfl) ?_
    refine lv_iconst (v := 1) X.1 X.2.1 dX6_even_8 (by decide) ?_
    obtain ⟨r2, hr2, hf⟩ := bd_of hf
    refine x_callVv X hP hS hG_M.1 (by omega) rfl (n := 1) (As := [.int 1]) (ct_X6_layBest hG_M hr2) gX6_even_X6_layBest rfl (by decide +kernel) ⟨by decide, by decide⟩ rfl hl.1 rfl (Nat.le_of_ble_eq_true rfl) dX6_even_9 (fun E H locs hp hP hS => ?_)
    obtain ⟨hW_M, hk⟩ := hp
    have hG_M := hW_M
    have hfr : ∀ j, (j < 64 ∨ 74 ≤ j) → E j = E0 j := fun j o0 => (hk j (by omega)).trans (hfr j o0)
    refine lv_iload_n X.1 X.2.1 dX6_even_12 rfl (lv_at hl 1 rfl) ?_
    refine lv_iconst (v := (-1)) X.1 X.2.1 dX6_even_13 (by decide) ?_
    refine lv_icmp_ne (tgt := 24) X.1 X.2.1 dX6_even_14 (by decide) (fun c3 => ?_) (fun c3 => ?_)
    · have hf := ifn hf c3
      refine lv_aload_n X.1 X.2.1 dX6_even_24 rfl (lv_at hl 0 rfl) ?_
      refine lv_iload_n X.1 X.2.1 dX6_even_25 rfl (lv_at hl 1 rfl) ?_
      obtain ⟨r4, hr4, hf⟩ := bd_of hf
      refine x_rdVi X hP hS hG_M.1 (by omega) rfl (n := 1) (As := [.int p1]) (ct_X6_isMedal hG_M hr4) gX6_even_X6_isMedal rfl (by decide +kernel) ⟨by decide, by decide⟩ rfl hl.1 rfl (Nat.le_of_ble_eq_true rfl) dX6_even_26 (fun H locs hP hS => ?_)
      refine lv_if_eq (tgt := 41) X.1 X.2.1 dX6_even_29 (by decide) (fun c5 => ?_) (fun c5 => ?_)
      · have hf := ifp hf c5
        refine lv_bipush (v := (-4)) X.1 X.2.1 dX6_even_41 (by decide) ?_
        obtain rfl := Option.some.inj hf
        exact hret _ _ _ _ _ _ dX6_even_43 rfl rfl (⟨hG_M, hfr⟩) hP hS
      · have hf := ifn hf c5
        refine lv_aload_n X.1 X.2.1 dX6_even_32 rfl (lv_at hl 0 rfl) ?_
        refine x_get X hP hG_M.1 (by omega) rfl in_X6_even_X6 12 (by decide) (by decide +kernel) rfl rfl dX6_even_33 ?_
        refine lv_iload_n X.1 X.2.1 dX6_even_36 rfl (lv_at hl 1 rfl) ?_
        obtain ⟨hi6, hf⟩ := gin_of hf
        refine x_iald X hP hG_M.2.2.2.2.2.2.2.2.2 (by omega) hi6 dX6_even_37 ?_
        refine lv_goto (tgt := 43) X.1 X.2.1 dX6_even_38 (by decide) ?_
        obtain rfl := Option.some.inj hf
        exact hret _ _ _ _ _ _ dX6_even_43 rfl rfl (⟨hG_M, hfr⟩) hP hS
    · have hf := ifp hf c3
      refine lv_aload_n X.1 X.2.1 dX6_even_17 rfl (lv_at hl 0 rfl) ?_
      refine x_get X hP hG_M.1 (by omega) rfl in_X6_even_X6 13 (by decide) (by decide +kernel) rfl rfl dX6_even_18 ?_
      refine lv_goto (tgt := 43) X.1 X.2.1 dX6_even_21 (by decide) ?_
      obtain rfl := Option.some.inj hf
      exact hret _ _ _ _ _ _ dX6_even_43 rfl rfl (⟨hG_M, hfr⟩) hP hS
  · have hf := ifn hf c1
    refine lv_iconst (v := (-1)) X.1 X.2.1 dX6_even_5 (by decide) ?_
    obtain rfl := Option.some.inj hf
    exact hret _ _ _ _ _ _ dX6_even_6 rfl rfl (⟨hG_M, hfr⟩) hP hS
