set_option maxRecDepth 20000 in
theorem ggL_law_X5_init : GoodIn wsL_law wsX5_init := goodIn_r _ [9, 10, 11, 12, 13, 14, 15, 16, 17, 18, 19, 20, 21, 22, 23, 24, 25, 26, 27, 28, 29, 30, 31, 32, 33, 34, 35, 36, 37, 38, 39, 40, 41, 42, 43, 44, 45, 46, 47, 48, 49, 50, 51, 52, 53, 54, 55, 56, 57, 58, 59, 60, 61, 62, 63, 64, 65, 66, 67, 68, 69, 70, 71, 72, 73, 74, 75, 76, 77, 78, 79, 80, 81, 82, 83, 84, 85, 86, 845, 846, 847, 848, 849, 850, 851, 852, 853, 854, 821, 822, 823, 824, 825, 826, 827, 828, 829, 855, 856, 857, 858, 859, 860, 861, 862, 863, 864, 865, 866, 867, 868, 869, 870, 871, 872, 873] (by decide +kernel) (by decide +kernel)
set_option maxRecDepth 20000 in
theorem gL_law_X5_init : GoodIn wsL_law (wsX5_init) := ggL_law_X5_init
set_option maxRecDepth 20000 in
theorem ggL_law_X6_init : GoodIn wsL_law wsX6_init := goodIn_r _ [89, 90, 11, 12, 41, 91, 92, 85, 93, 94, 95, 96, 97, 98, 99, 830, 831, 832, 833, 834, 835, 836, 837, 838, 839, 840, 841, 842, 843, 844] (by decide +kernel) (by decide +kernel)
set_option maxRecDepth 20000 in
theorem gL_law_X6_init : GoodIn wsL_law (wsX6_init) := ggL_law_X6_init
set_option maxRecDepth 20000 in
theorem ggL_law_X5_man : GoodIn wsL_law wsX5_man := goodIn_r _ [103, 16, 104, 20, 105, 106, 107, 19, 108, 56, 109, 110, 111, 15, 112, 40, 42, 43, 821, 822, 823, 824, 825, 826, 827, 828, 829, 845, 846, 847, 848, 849, 850, 851, 852, 853, 854, 855, 856, 857] (by decide +kernel) (by decide +kernel)
set_option maxRecDepth 20000 in
theorem gL_law_X5_man : GoodIn wsL_law (wsV RL 13 RX5 yX5_man wsX5_man) := goodIn_app (goodIn_of _ (by decide +kernel)) ggL_law_X5_man
set_option maxRecDepth 20000 in
theorem ggL_law_X6_man : GoodIn wsL_law wsX6_man := goodIn_r _ [116, 95, 117, 118, 5, 119, 120, 121, 122, 830, 831, 832, 833, 834, 835, 836, 837, 838, 839, 840, 841, 842, 843, 844] (by decide +kernel) (by decide +kernel)
set_option maxRecDepth 20000 in
theorem gL_law_X6_man : GoodIn wsL_law (wsV RL 17 RX6 yX6_man wsX6_man) := goodIn_app (goodIn_of _ (by decide +kernel)) ggL_law_X6_man
set_option maxRecDepth 20000 in
theorem ggL_law_X5_medal : GoodIn wsL_law wsX5_medal := goodIn_r _ [126, 16, 127, 20, 128, 129, 130, 15, 131, 40, 105, 106, 107, 19, 108, 56, 132, 133, 134, 135, 44, 45, 46, 47, 48, 821, 822, 823, 824, 825, 826, 827, 828, 829, 845, 846, 847, 848, 849, 850, 851, 852, 853, 854, 855, 856, 857] (by decide +kernel) (by decide +kernel)
set_option maxRecDepth 20000 in
theorem gL_law_X5_medal : GoodIn wsL_law (wsV RL 18 RX5 yX5_medal wsX5_medal) := goodIn_app (goodIn_of _ (by decide +kernel)) ggL_law_X5_medal
set_option maxRecDepth 20000 in
theorem ggL_law_X6_medal : GoodIn wsL_law wsX6_medal := goodIn_r _ [139, 95, 117, 118, 5, 119, 140, 141, 142, 143, 144, 145, 146, 830, 831, 832, 833, 834, 835, 836, 837, 838, 839, 840, 841, 842, 843, 844] (by decide +kernel) (by decide +kernel)
set_option maxRecDepth 20000 in
theorem gL_law_X6_medal : GoodIn wsL_law (wsV RL 22 RX6 yX6_medal wsX6_medal) := goodIn_app (goodIn_of _ (by decide +kernel)) ggL_law_X6_medal
set_option maxRecDepth 20000 in
theorem ggL_law_X5_of : GoodIn wsL_law wsX5_of := goodIn_r _ [150, 16, 151, 152, 153, 128, 129, 130, 15, 131, 40, 154, 155, 156, 157, 158, 159, 160, 161, 48, 162, 163, 164, 165, 44, 166, 167, 168, 169, 170, 171, 172, 173, 174, 175, 176, 177, 178, 179, 180, 46, 45, 47, 181, 182, 183, 184, 49, 43, 185, 186, 187, 188, 189, 190, 821, 822, 823, 824, 825, 826, 827, 828, 829, 845, 846, 847, 848, 849, 850, 851, 852, 853, 854] (by decide +kernel) (by decide +kernel)
set_option maxRecDepth 20000 in
theorem gL_law_X5_of : GoodIn wsL_law (wsV RL 23 RX5 yX5_of wsX5_of) := goodIn_app (goodIn_of _ (by decide +kernel)) ggL_law_X5_of
set_option maxRecDepth 20000 in
theorem ggL_law_X6_of : GoodIn wsL_law wsX6_of := goodIn_r _ [194, 95, 140, 141, 142, 5, 143, 117, 118, 119, 195, 196, 197, 198, 199, 200, 201, 202, 203, 204, 205, 206, 207, 208, 209, 210, 211, 212, 213, 830, 831, 832, 833, 834, 835, 836, 837, 838, 839, 840, 841, 842, 843, 844] (by decide +kernel) (by decide +kernel)
set_option maxRecDepth 20000 in
theorem gL_law_X6_of : GoodIn wsL_law (wsV RL 27 RX6 yX6_of wsX6_of) := goodIn_app (goodIn_of _ (by decide +kernel)) ggL_law_X6_of
