set_option maxRecDepth 20000 in
theorem ggL_law_X5_done : GoodIn wsL_law wsX5_done := goodIn_r _ [530, 16, 152, 153, 128, 129, 130, 15, 131, 40, 531, 426, 427, 428, 42, 185, 155, 156, 157, 158, 159, 160, 161, 48, 162, 163, 164, 165, 44, 166, 167, 168, 169, 170, 171, 172, 173, 174, 175, 176, 177, 178, 179, 180, 46, 45, 47, 429, 2, 430, 431, 432, 411, 433, 434, 410, 412, 821, 822, 823, 824, 825, 826, 827, 828, 829, 845, 846, 847, 848, 849, 850, 851, 852, 853, 854] (by decide +kernel) (by decide +kernel)
set_option maxRecDepth 20000 in
theorem gL_law_X5_done : GoodIn wsL_law (wsV RL 77 RX5 yX5_done wsX5_done) := goodIn_app (goodIn_of _ (by decide +kernel)) ggL_law_X5_done
set_option maxRecDepth 20000 in
theorem ggL_law_X6_done : GoodIn wsL_law wsX6_done := goodIn_r _ [535, 96, 140, 141, 142, 5, 143, 95, 117, 118, 119, 506, 507, 508, 509, 356, 357, 358, 443, 444, 445, 381, 382, 383, 207, 208, 209, 195, 196, 197, 198, 199, 200, 201, 202, 203, 204, 205, 206, 830, 831, 832, 833, 834, 835, 836, 837, 838, 839, 840, 841, 842, 843, 844] (by decide +kernel) (by decide +kernel)
set_option maxRecDepth 20000 in
theorem gL_law_X6_done : GoodIn wsL_law (wsV RL 80 RX6 yX6_done wsX6_done) := goodIn_app (goodIn_of _ (by decide +kernel)) ggL_law_X6_done
set_option maxRecDepth 20000 in
theorem ggL_law_X5_ever : GoodIn wsL_law wsX5_ever := goodIn_r _ [539, 16, 104, 540, 541, 542, 15, 543, 43, 49, 185, 155, 156, 157, 158, 159, 160, 161, 48, 162, 163, 164, 165, 44, 166, 167, 168, 169, 170, 171, 172, 173, 174, 175, 176, 177, 178, 179, 180, 46, 45, 47, 425, 426, 427, 428, 42, 429, 2, 430, 431, 432, 411, 433, 434, 410, 412, 821, 822, 823, 824, 825, 826, 827, 828, 829, 845, 846, 847, 848, 849, 850, 851, 852, 853, 854] (by decide +kernel) (by decide +kernel)
set_option maxRecDepth 20000 in
theorem gL_law_X5_ever : GoodIn wsL_law (wsV RL 81 RX5 yX5_ever wsX5_ever) := goodIn_app (goodIn_of _ (by decide +kernel)) ggL_law_X5_ever
set_option maxRecDepth 20000 in
theorem ggL_law_X6_ever : GoodIn wsL_law wsX6_ever := goodIn_r _ [547, 96, 506, 507, 508, 5, 509, 95, 356, 357, 358, 381, 382, 383, 207, 208, 209, 195, 196, 197, 198, 199, 200, 201, 202, 203, 204, 205, 206, 443, 444, 445, 830, 831, 832, 833, 834, 835, 836, 837, 838, 839, 840, 841, 842, 843, 844] (by decide +kernel) (by decide +kernel)
set_option maxRecDepth 20000 in
theorem gL_law_X6_ever : GoodIn wsL_law (wsV RL 84 RX6 yX6_ever wsX6_ever) := goodIn_app (goodIn_of _ (by decide +kernel)) ggL_law_X6_ever
set_option maxRecDepth 20000 in
theorem ggL_law_X5_even : GoodIn wsL_law wsX5_even := goodIn_r _ [551, 32, 552, 553, 554, 555, 31, 556, 76, 557, 558, 559, 560, 72, 73, 561, 77, 562, 563, 564, 565, 78, 71, 566, 70, 567, 568, 569, 570, 15, 571, 44, 158, 159, 160, 161, 48, 162, 163, 164, 165, 572, 167, 168, 169, 170, 171, 172, 173, 174, 175, 176, 177, 178, 179, 180, 46, 45, 47, 573, 574, 575, 576, 74, 577, 316, 317, 318, 578, 579, 580, 581, 582, 583, 584, 585, 586, 587, 588, 589, 590, 591, 592, 432, 411, 433, 593, 594, 595, 596, 821, 822, 823, 824, 825, 826, 827, 828, 829, 861, 862, 863, 864, 865, 866, 867, 868, 869, 845, 846, 847, 848, 849, 850, 851, 852, 853, 854] (by decide +kernel) (by decide +kernel)
set_option maxRecDepth 20000 in
theorem gL_law_X5_even : GoodIn wsL_law (wsV RL 85 RX5 yX5_even wsX5_even) := goodIn_app (goodIn_of _ (by decide +kernel)) ggL_law_X5_even
set_option maxRecDepth 20000 in
theorem ggL_law_X6_even : GoodIn wsL_law wsX6_even := goodIn_r _ [600, 601, 99, 602, 603, 604, 5, 605, 606, 96, 607, 608, 609, 610, 95, 611, 612, 613, 614, 506, 507, 508, 509, 356, 357, 358, 615, 616, 617, 195, 196, 197, 198, 199, 200, 201, 202, 203, 204, 205, 206, 381, 382, 383, 207, 208, 209, 234, 235, 236, 237, 117, 118, 119, 830, 831, 832, 833, 834, 835, 836, 837, 838, 839, 840, 841, 842, 843, 844] (by decide +kernel) (by decide +kernel)
set_option maxRecDepth 20000 in
theorem gL_law_X6_even : GoodIn wsL_law (wsV RL 88 RX6 yX6_even wsX6_even) := goodIn_app (goodIn_of _ (by decide +kernel)) ggL_law_X6_even
set_option maxRecDepth 20000 in
theorem ggL_law_X5_few : GoodIn wsL_law wsX5_few := goodIn_r _ [621, 32, 552, 622, 623, 624, 31, 625, 76, 557, 558, 559, 560, 72, 73, 561, 77, 562, 563, 564, 565, 78, 71, 566, 70, 567, 568, 569, 570, 15, 571, 44, 158, 159, 160, 161, 48, 162, 163, 164, 165, 572, 167, 168, 169, 170, 171, 172, 173, 174, 175, 176, 177, 178, 179, 180, 46, 45, 47, 573, 574, 575, 576, 74, 577, 316, 317, 318, 578, 579, 580, 581, 582, 583, 584, 585, 586, 587, 588, 589, 590, 591, 592, 432, 411, 433, 593, 594, 595, 596, 821, 822, 823, 824, 825, 826, 827, 828, 829, 861, 862, 863, 864, 865, 866, 867, 868, 869, 845, 846, 847, 848, 849, 850, 851, 852, 853, 854] (by decide +kernel) (by decide +kernel)
set_option maxRecDepth 20000 in
theorem gL_law_X5_few : GoodIn wsL_law (wsV RL 89 RX5 yX5_few wsX5_few) := goodIn_app (goodIn_of _ (by decide +kernel)) ggL_law_X5_few
set_option maxRecDepth 20000 in
theorem ggL_law_X6_few : GoodIn wsL_law wsX6_few := goodIn_r _ [629, 601, 606, 99, 602, 603, 604, 5, 605, 96, 607, 608, 609, 610, 95, 611, 612, 613, 614, 506, 507, 508, 509, 356, 357, 358, 615, 616, 617, 195, 196, 197, 198, 199, 200, 201, 202, 203, 204, 205, 206, 381, 382, 383, 207, 208, 209, 234, 235, 236, 237, 117, 118, 119, 830, 831, 832, 833, 834, 835, 836, 837, 838, 839, 840, 841, 842, 843, 844] (by decide +kernel) (by decide +kernel)
set_option maxRecDepth 20000 in
theorem gL_law_X6_few : GoodIn wsL_law (wsV RL 92 RX6 yX6_few wsX6_few) := goodIn_app (goodIn_of _ (by decide +kernel)) ggL_law_X6_few
