set_option maxRecDepth 20000 in
theorem ggL_law_X5_image : GoodIn wsL_law wsX5_image := goodIn_r _ [706, 21, 16, 22, 20, 23, 311, 312, 313, 15, 314, 40, 42, 315, 316, 317, 318, 43, 44, 45, 46, 47, 48, 49, 50, 707, 708, 709, 19, 710, 55, 404, 56, 57, 821, 822, 823, 824, 825, 826, 827, 828, 829, 845, 846, 847, 848, 849, 850, 851, 852, 853, 854, 855, 856, 857] (by decide +kernel) (by decide +kernel)
set_option maxRecDepth 20000 in
theorem gL_law_X5_image : GoodIn wsL_law (wsV RL 109 RX5 yX5_image wsX5_image) := goodIn_app (goodIn_of _ (by decide +kernel)) ggL_law_X5_image
set_option maxRecDepth 20000 in
theorem ggL_law_X6_image : GoodIn wsL_law wsX6_image := goodIn_r _ [714, 95, 98, 715, 356, 357, 5, 358, 830, 831, 832, 833, 834, 835, 836, 837, 838, 839, 840, 841, 842, 843, 844] (by decide +kernel) (by decide +kernel)
set_option maxRecDepth 20000 in
theorem gL_law_X6_image : GoodIn wsL_law (wsV RL 112 RX6 yX6_image wsX6_image) := goodIn_app (goodIn_of _ (by decide +kernel)) ggL_law_X6_image
set_option maxRecDepth 20000 in
theorem ggL_law_X5_restore : GoodIn wsL_law wsX5_restore := goodIn_r _ [719, 23, 16, 21, 20, 22, 311, 312, 313, 15, 314, 40, 42, 315, 316, 317, 318, 43, 44, 45, 46, 47, 48, 49, 50, 707, 708, 709, 19, 710, 55, 404, 56, 57, 821, 822, 823, 824, 825, 826, 827, 828, 829, 845, 846, 847, 848, 849, 850, 851, 852, 853, 854, 855, 856, 857] (by decide +kernel) (by decide +kernel)
set_option maxRecDepth 20000 in
theorem gL_law_X5_restore : GoodIn wsL_law (wsV RL 113 RX5 yX5_restore wsX5_restore) := goodIn_app (goodIn_of _ (by decide +kernel)) ggL_law_X5_restore
set_option maxRecDepth 20000 in
theorem ggL_law_X6_restore : GoodIn wsL_law wsX6_restore := goodIn_r _ [723, 715, 98, 95, 356, 357, 5, 358, 830, 831, 832, 833, 834, 835, 836, 837, 838, 839, 840, 841, 842, 843, 844] (by decide +kernel) (by decide +kernel)
set_option maxRecDepth 20000 in
theorem gL_law_X6_restore : GoodIn wsL_law (wsV RL 116 RX6 yX6_restore wsX6_restore) := goodIn_app (goodIn_of _ (by decide +kernel)) ggL_law_X6_restore
set_option maxRecDepth 20000 in
theorem ggL_law_X5_felt : GoodIn wsL_law wsX5_felt := goodIn_r _ [727, 16, 34, 104, 24, 218, 219, 220, 128, 129, 130, 15, 131, 40, 222, 223, 224, 225, 44, 728, 729, 2, 730, 731, 732, 733, 734, 735, 736, 36, 737, 82, 83, 738, 739, 740, 741, 84, 311, 312, 313, 314, 42, 315, 316, 317, 318, 43, 45, 46, 47, 48, 49, 50, 742, 743, 744, 745, 152, 153, 746, 531, 426, 427, 428, 185, 155, 156, 157, 158, 159, 160, 161, 162, 163, 164, 165, 166, 167, 168, 169, 170, 171, 172, 173, 174, 175, 176, 177, 178, 179, 180, 429, 430, 431, 432, 411, 433, 434, 410, 412, 821, 822, 823, 824, 825, 826, 827, 828, 829, 845, 846, 847, 848, 849, 850, 851, 852, 853, 854, 870, 871, 872, 873] (by decide +kernel) (by decide +kernel)
set_option maxRecDepth 20000 in
theorem gL_law_X5_felt : GoodIn wsL_law (wsV RL 117 RX5 yX5_felt wsX5_felt) := goodIn_app (goodIn_of _ (by decide +kernel)) ggL_law_X5_felt
set_option maxRecDepth 20000 in
theorem ggL_law_X6_felt : GoodIn wsL_law wsX6_felt := goodIn_r _ [750, 95, 96, 140, 141, 142, 5, 143, 117, 118, 119, 234, 235, 236, 237, 751, 752, 753, 754, 755, 756, 757, 91, 92, 758, 759, 760, 506, 507, 508, 509, 356, 357, 358, 761, 762, 763, 764, 93, 443, 444, 445, 381, 382, 383, 207, 208, 209, 195, 196, 197, 198, 199, 200, 201, 202, 203, 204, 205, 206, 830, 831, 832, 833, 834, 835, 836, 837, 838, 839, 840, 841, 842, 843, 844] (by decide +kernel) (by decide +kernel)
set_option maxRecDepth 20000 in
theorem gL_law_X6_felt : GoodIn wsL_law (wsV RL 121 RX6 yX6_felt wsX6_felt) := goodIn_app (goodIn_of _ (by decide +kernel)) ggL_law_X6_felt
set_option maxRecDepth 20000 in
theorem ggL_law_X5_film : GoodIn wsL_law wsX5_film := goodIn_r _ [768, 16, 34, 152, 153, 128, 129, 130, 15, 131, 40, 728, 729, 2, 730, 731, 732, 733, 734, 735, 736, 36, 737, 82, 83, 738, 739, 740, 741, 84, 531, 426, 427, 428, 42, 185, 155, 156, 157, 158, 159, 160, 161, 48, 162, 163, 164, 165, 44, 166, 167, 168, 169, 170, 171, 172, 173, 174, 175, 176, 177, 178, 179, 180, 46, 45, 47, 429, 430, 431, 432, 411, 433, 434, 410, 412, 769, 770, 771, 772, 86, 821, 822, 823, 824, 825, 826, 827, 828, 829, 845, 846, 847, 848, 849, 850, 851, 852, 853, 854, 870, 871, 872, 873] (by decide +kernel) (by decide +kernel)
set_option maxRecDepth 20000 in
theorem gL_law_X5_film : GoodIn wsL_law (wsV RL 122 RX5 yX5_film wsX5_film) := goodIn_app (goodIn_of _ (by decide +kernel)) ggL_law_X5_film
set_option maxRecDepth 20000 in
theorem ggL_law_X6_film : GoodIn wsL_law wsX6_film := goodIn_r _ [776, 96, 93, 140, 141, 142, 5, 143, 95, 117, 118, 119, 751, 752, 753, 754, 755, 756, 757, 91, 92, 758, 759, 760, 506, 507, 508, 509, 356, 357, 358, 443, 444, 445, 381, 382, 383, 207, 208, 209, 195, 196, 197, 198, 199, 200, 201, 202, 203, 204, 205, 206, 777, 778, 779, 830, 831, 832, 833, 834, 835, 836, 837, 838, 839, 840, 841, 842, 843, 844] (by decide +kernel) (by decide +kernel)
set_option maxRecDepth 20000 in
theorem gL_law_X6_film : GoodIn wsL_law (wsV RL 126 RX6 yX6_film wsX6_film) := goodIn_app (goodIn_of _ (by decide +kernel)) ggL_law_X6_film
