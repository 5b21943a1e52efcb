set_option maxRecDepth 20000 in
theorem ggL_law_X5_days : GoodIn wsL_law wsX5_days := goodIn_r _ [394, 395, 396, 397, 2, 398, 16, 153, 20, 399, 400, 401, 19, 402, 55, 57, 403, 404, 316, 317, 318, 405, 406, 407, 408, 56, 409, 410, 411, 412, 413, 414, 415, 15, 416, 50, 417, 418, 419, 44, 40, 48, 420, 421, 422, 423, 424, 43, 49, 425, 426, 427, 428, 42, 185, 155, 156, 157, 158, 159, 160, 161, 162, 163, 164, 165, 166, 167, 168, 169, 170, 171, 172, 173, 174, 175, 176, 177, 178, 179, 180, 46, 45, 47, 429, 430, 431, 432, 433, 434, 364, 365, 366, 367, 368, 182, 183, 184, 821, 822, 823, 824, 825, 826, 827, 828, 829, 845, 846, 847, 848, 849, 850, 851, 852, 853, 854, 855, 856, 857] (by decide +kernel) (by decide +kernel)
set_option maxRecDepth 20000 in
theorem gL_law_X5_days : GoodIn wsL_law (wsV RL 45 RX5 yX5_days wsX5_days) := goodIn_app (goodIn_of _ (by decide +kernel)) ggL_law_X5_days
set_option maxRecDepth 20000 in
theorem ggL_law_X6_days : GoodIn wsL_law wsX6_days := goodIn_r _ [438, 95, 117, 118, 5, 119, 439, 440, 441, 442, 356, 357, 358, 443, 444, 445, 381, 382, 383, 207, 208, 209, 195, 196, 197, 198, 199, 200, 201, 202, 203, 204, 205, 206, 830, 831, 832, 833, 834, 835, 836, 837, 838, 839, 840, 841, 842, 843, 844] (by decide +kernel) (by decide +kernel)
set_option maxRecDepth 20000 in
theorem gL_law_X6_days : GoodIn wsL_law (wsV RL 48 RX6 yX6_days wsX6_days) := goodIn_app (goodIn_of _ (by decide +kernel)) ggL_law_X6_days
set_option maxRecDepth 20000 in
theorem ggL_law_X5_hang : GoodIn wsL_law wsX5_hang := goodIn_r _ [449, 16, 221, 20, 222, 223, 224, 15, 225, 44, 128, 129, 130, 131, 40, 399, 400, 401, 19, 402, 55, 57, 403, 404, 316, 317, 318, 405, 406, 407, 408, 56, 409, 410, 411, 412, 821, 822, 823, 824, 825, 826, 827, 828, 829, 845, 846, 847, 848, 849, 850, 851, 852, 853, 854, 855, 856, 857] (by decide +kernel) (by decide +kernel)
set_option maxRecDepth 20000 in
theorem gL_law_X5_hang : GoodIn wsL_law (wsV RL 49 RX5 yX5_hang wsX5_hang) := goodIn_app (goodIn_of _ (by decide +kernel)) ggL_law_X5_hang
set_option maxRecDepth 20000 in
theorem ggL_law_X6_hang : GoodIn wsL_law wsX6_hang := goodIn_r _ [453, 95, 234, 235, 236, 5, 237, 117, 118, 119, 140, 141, 142, 143, 439, 440, 441, 442, 356, 357, 358, 830, 831, 832, 833, 834, 835, 836, 837, 838, 839, 840, 841, 842, 843, 844] (by decide +kernel) (by decide +kernel)
set_option maxRecDepth 20000 in
theorem gL_law_X6_hang : GoodIn wsL_law (wsV RL 52 RX6 yX6_hang wsX6_hang) := goodIn_app (goodIn_of _ (by decide +kernel)) ggL_law_X6_hang
set_option maxRecDepth 20000 in
theorem ggL_law_X5_polish : GoodIn wsL_law wsX5_polish := goodIn_r _ [457, 16, 219, 20, 434, 410, 411, 412, 222, 223, 224, 15, 225, 44, 399, 400, 401, 19, 402, 55, 57, 403, 404, 316, 317, 318, 405, 406, 407, 408, 56, 409, 821, 822, 823, 824, 825, 826, 827, 828, 829, 845, 846, 847, 848, 849, 850, 851, 852, 853, 854, 855, 856, 857] (by decide +kernel) (by decide +kernel)
set_option maxRecDepth 20000 in
theorem gL_law_X5_polish : GoodIn wsL_law (wsV RL 53 RX5 yX5_polish wsX5_polish) := goodIn_app (goodIn_of _ (by decide +kernel)) ggL_law_X5_polish
set_option maxRecDepth 20000 in
theorem ggL_law_X6_polish : GoodIn wsL_law wsX6_polish := goodIn_r _ [461, 95, 234, 235, 236, 5, 237, 117, 118, 119, 439, 440, 441, 442, 356, 357, 358, 830, 831, 832, 833, 834, 835, 836, 837, 838, 839, 840, 841, 842, 843, 844] (by decide +kernel) (by decide +kernel)
set_option maxRecDepth 20000 in
theorem gL_law_X6_polish : GoodIn wsL_law (wsV RL 56 RX6 yX6_polish wsX6_polish) := goodIn_app (goodIn_of _ (by decide +kernel)) ggL_law_X6_polish
set_option maxRecDepth 20000 in
theorem ggL_law_X5_drift : GoodIn wsL_law wsX5_drift := goodIn_r _ [465, 395, 396, 397, 2, 398, 16, 153, 20, 399, 400, 401, 19, 402, 55, 57, 403, 404, 316, 317, 318, 405, 406, 407, 408, 56, 409, 410, 411, 412, 413, 414, 415, 15, 416, 50, 417, 418, 419, 44, 40, 48, 420, 421, 422, 423, 424, 43, 49, 425, 426, 427, 428, 42, 185, 155, 156, 157, 158, 159, 160, 161, 162, 163, 164, 165, 166, 167, 168, 169, 170, 171, 172, 173, 174, 175, 176, 177, 178, 179, 180, 46, 45, 47, 429, 430, 431, 432, 433, 434, 364, 365, 366, 367, 368, 182, 183, 184, 821, 822, 823, 824, 825, 826, 827, 828, 829, 845, 846, 847, 848, 849, 850, 851, 852, 853, 854, 855, 856, 857] (by decide +kernel) (by decide +kernel)
set_option maxRecDepth 20000 in
theorem gL_law_X5_drift : GoodIn wsL_law (wsV RL 57 RX5 yX5_drift wsX5_drift) := goodIn_app (goodIn_of _ (by decide +kernel)) ggL_law_X5_drift
set_option maxRecDepth 20000 in
theorem ggL_law_X6_drift : GoodIn wsL_law wsX6_drift := goodIn_r _ [469, 95, 470, 471, 472, 473, 117, 118, 5, 119, 439, 440, 441, 442, 356, 357, 358, 443, 444, 445, 381, 382, 383, 207, 208, 209, 195, 196, 197, 198, 199, 200, 201, 202, 203, 204, 205, 206, 830, 831, 832, 833, 834, 835, 836, 837, 838, 839, 840, 841, 842, 843, 844] (by decide +kernel) (by decide +kernel)
set_option maxRecDepth 20000 in
theorem gL_law_X6_drift : GoodIn wsL_law (wsV RL 60 RX6 yX6_drift wsX6_drift) := goodIn_app (goodIn_of _ (by decide +kernel)) ggL_law_X6_drift
