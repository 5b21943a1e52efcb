set_option maxRecDepth 20000 in
theorem ggL_law_X5_undo : GoodIn wsL_law wsX5_undo := goodIn_r _ [477, 20, 16, 363, 478, 479, 480, 19, 481, 56, 57, 55, 403, 404, 316, 317, 318, 405, 406, 407, 408, 821, 822, 823, 824, 825, 826, 827, 828, 829, 855, 856, 857, 845, 846, 847, 848, 849, 850, 851, 852, 853, 854] (by decide +kernel) (by decide +kernel)
set_option maxRecDepth 20000 in
theorem gL_law_X5_undo : GoodIn wsL_law (wsV RL 61 RX5 yX5_undo wsX5_undo) := goodIn_app (goodIn_of _ (by decide +kernel)) ggL_law_X5_undo
set_option maxRecDepth 20000 in
theorem ggL_law_X6_undo : GoodIn wsL_law wsX6_undo := goodIn_r _ [485, 95, 356, 357, 5, 358, 830, 831, 832, 833, 834, 835, 836, 837, 838, 839, 840, 841, 842, 843, 844] (by decide +kernel) (by decide +kernel)
set_option maxRecDepth 20000 in
theorem gL_law_X6_undo : GoodIn wsL_law (wsV RL 64 RX6 yX6_undo wsX6_undo) := goodIn_app (goodIn_of _ (by decide +kernel)) ggL_law_X6_undo
set_option maxRecDepth 20000 in
theorem ggL_law_X5_seed : GoodIn wsL_law wsX5_seed := goodIn_r _ [489, 16, 256, 821, 822, 823, 824, 825, 826, 827, 828, 829, 845, 846, 847, 848, 849, 850, 851, 852, 853, 854] (by decide +kernel) (by decide +kernel)
set_option maxRecDepth 20000 in
theorem gL_law_X5_seed : GoodIn wsL_law (wsV RL 65 RX5 yX5_seed wsX5_seed) := goodIn_app (goodIn_of _ (by decide +kernel)) ggL_law_X5_seed
set_option maxRecDepth 20000 in
theorem ggL_law_X6_seed : GoodIn wsL_law wsX6_seed := goodIn_r _ [493, 95, 830, 831, 832, 833, 834, 835, 836, 837, 838, 839, 840, 841, 842, 843, 844] (by decide +kernel) (by decide +kernel)
set_option maxRecDepth 20000 in
theorem gL_law_X6_seed : GoodIn wsL_law (wsV RL 68 RX6 yX6_seed wsX6_seed) := goodIn_app (goodIn_of _ (by decide +kernel)) ggL_law_X6_seed
set_option maxRecDepth 20000 in
theorem ggL_law_X5_ahead : GoodIn wsL_law wsX5_ahead := goodIn_r _ [497, 16, 153, 128, 129, 130, 15, 131, 40, 498, 499, 500, 501, 43, 49, 425, 426, 427, 428, 42, 185, 155, 156, 157, 158, 159, 160, 161, 48, 162, 163, 164, 165, 44, 166, 167, 168, 169, 170, 171, 172, 173, 174, 175, 176, 177, 178, 179, 180, 46, 45, 47, 429, 2, 430, 431, 432, 411, 433, 434, 410, 412, 154, 821, 822, 823, 824, 825, 826, 827, 828, 829, 845, 846, 847, 848, 849, 850, 851, 852, 853, 854] (by decide +kernel) (by decide +kernel)
set_option maxRecDepth 20000 in
theorem gL_law_X5_ahead : GoodIn wsL_law (wsV RL 69 RX5 yX5_ahead wsX5_ahead) := goodIn_app (goodIn_of _ (by decide +kernel)) ggL_law_X5_ahead
set_option maxRecDepth 20000 in
theorem ggL_law_X6_ahead : GoodIn wsL_law wsX6_ahead := goodIn_r _ [505, 96, 140, 141, 142, 5, 143, 95, 117, 118, 119, 506, 507, 508, 509, 356, 357, 358, 510, 511, 512, 513, 443, 444, 445, 381, 382, 383, 207, 208, 209, 195, 196, 197, 198, 199, 200, 201, 202, 203, 204, 205, 206, 830, 831, 832, 833, 834, 835, 836, 837, 838, 839, 840, 841, 842, 843, 844] (by decide +kernel) (by decide +kernel)
set_option maxRecDepth 20000 in
theorem gL_law_X6_ahead : GoodIn wsL_law (wsV RL 72 RX6 yX6_ahead wsX6_ahead) := goodIn_app (goodIn_of _ (by decide +kernel)) ggL_law_X6_ahead
set_option maxRecDepth 20000 in
theorem ggL_law_X5_then : GoodIn wsL_law wsX5_then := goodIn_r _ [517, 16, 518, 519, 520, 15, 521, 40, 49, 185, 155, 156, 157, 158, 159, 160, 161, 48, 162, 163, 164, 165, 44, 166, 167, 168, 169, 170, 171, 172, 173, 174, 175, 176, 177, 178, 179, 180, 46, 45, 47, 522, 499, 500, 501, 43, 425, 426, 427, 428, 42, 429, 2, 430, 431, 432, 411, 433, 434, 410, 412, 821, 822, 823, 824, 825, 826, 827, 828, 829, 845, 846, 847, 848, 849, 850, 851, 852, 853, 854] (by decide +kernel) (by decide +kernel)
set_option maxRecDepth 20000 in
theorem gL_law_X5_then : GoodIn wsL_law (wsV RL 73 RX5 yX5_then wsX5_then) := goodIn_app (goodIn_of _ (by decide +kernel)) ggL_law_X5_then
set_option maxRecDepth 20000 in
theorem ggL_law_X6_then : GoodIn wsL_law wsX6_then := goodIn_r _ [526, 96, 117, 118, 5, 119, 506, 507, 508, 509, 95, 356, 357, 358, 510, 511, 512, 513, 443, 444, 445, 381, 382, 383, 207, 208, 209, 195, 196, 197, 198, 199, 200, 201, 202, 203, 204, 205, 206, 830, 831, 832, 833, 834, 835, 836, 837, 838, 839, 840, 841, 842, 843, 844] (by decide +kernel) (by decide +kernel)
set_option maxRecDepth 20000 in
theorem gL_law_X6_then : GoodIn wsL_law (wsV RL 76 RX6 yX6_then wsX6_then) := goodIn_app (goodIn_of _ (by decide +kernel)) ggL_law_X6_then
