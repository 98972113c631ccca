set_option maxRecDepth 20000 in
theorem ggL_law_X7_image : GoodIn wsL_law wsX7_image := goodIn_r _ [782, 21, 16, 22, 20, 23, 783, 496, 497, 15, 498, 41, 43, 499, 500, 501, 502, 44, 45, 46, 47, 48, 784, 785, 786, 19, 787, 53, 55, 495, 899, 900, 901, 902, 903, 904, 905, 906, 907, 930, 931, 932, 933, 934, 935, 936, 937, 938] (by decide +kernel) (by decide +kernel)
set_option maxRecDepth 20000 in
theorem gL_law_X7_image : GoodIn wsL_law (wsV RL 81 RX7 yX7_image wsX7_image) := goodIn_app (goodIn_of _ (by decide +kernel)) ggL_law_X7_image
set_option maxRecDepth 20000 in
theorem ggL_law_X8_image : GoodIn wsL_law wsX8_image := goodIn_r _ [791, 109, 111, 110, 112, 236, 113, 515, 516, 5, 517, 908, 909, 910, 911, 912, 913, 914, 915, 916, 917, 918, 919, 920, 921, 922, 923, 924, 925, 926, 927, 928, 929] (by decide +kernel) (by decide +kernel)
set_option maxRecDepth 20000 in
theorem gL_law_X8_image : GoodIn wsL_law (wsV RL 84 RX8 yX8_image wsX8_image) := goodIn_app (goodIn_of _ (by decide +kernel)) ggL_law_X8_image
set_option maxRecDepth 20000 in
theorem ggL_law_X7_restore : GoodIn wsL_law wsX7_restore := goodIn_r _ [795, 23, 16, 21, 20, 22, 783, 496, 497, 15, 498, 41, 43, 499, 500, 501, 502, 44, 45, 46, 47, 48, 784, 785, 786, 19, 787, 53, 55, 495, 899, 900, 901, 902, 903, 904, 905, 906, 907, 930, 931, 932, 933, 934, 935, 936, 937, 938] (by decide +kernel) (by decide +kernel)
set_option maxRecDepth 20000 in
theorem gL_law_X7_restore : GoodIn wsL_law (wsV RL 85 RX7 yX7_restore wsX7_restore) := goodIn_app (goodIn_of _ (by decide +kernel)) ggL_law_X7_restore
set_option maxRecDepth 20000 in
theorem ggL_law_X8_restore : GoodIn wsL_law wsX8_restore := goodIn_r _ [799, 113, 111, 109, 112, 110, 236, 515, 516, 5, 517, 908, 909, 910, 911, 912, 913, 914, 915, 916, 917, 918, 919, 920, 921, 922, 923, 924, 925, 926, 927, 928, 929] (by decide +kernel) (by decide +kernel)
set_option maxRecDepth 20000 in
theorem gL_law_X8_restore : GoodIn wsL_law (wsV RL 88 RX8 yX8_restore wsX8_restore) := goodIn_app (goodIn_of _ (by decide +kernel)) ggL_law_X8_restore
set_option maxRecDepth 20000 in
theorem ggL_law_X7_allowed : GoodIn wsL_law wsX7_allowed := goodIn_r _ [803, 35, 29, 804, 805, 806, 2, 807, 808, 809, 810, 811, 812, 813, 37, 814, 102, 815, 816, 817, 818, 819, 820, 821, 822, 103, 138, 139, 140, 141, 16, 142, 143, 144, 73, 145, 146, 147, 148, 149, 85, 150, 88, 151, 152, 153, 154, 155, 86, 87, 89, 252, 253, 254, 255, 256, 257, 823, 824, 825, 826, 215, 258, 259, 260, 261, 262, 263, 264, 265, 164, 165, 266, 267, 268, 269, 222, 223, 224, 225, 226, 227, 270, 271, 272, 273, 274, 275, 276, 277, 278, 279, 899, 900, 901, 902, 903, 904, 905, 906, 907, 950, 951, 952, 960, 961, 962, 963, 964, 930, 931, 932, 933, 934, 935, 936] (by decide +kernel) (by decide +kernel)
set_option maxRecDepth 20000 in
theorem gL_law_X7_allowed : GoodIn wsL_law (wsV RL 89 RX7 yX7_allowed wsX7_allowed) := goodIn_app (goodIn_of _ (by decide +kernel)) ggL_law_X7_allowed
set_option maxRecDepth 20000 in
theorem ggL_law_X8_allowed : GoodIn wsL_law wsX8_allowed := goodIn_r _ [830, 831, 117, 832, 833, 5, 834, 835, 178, 179, 180, 836, 837, 838, 839, 115, 116, 289, 290, 291, 292, 293, 109, 294, 840, 841, 842, 843, 295, 296, 297, 298, 185, 186, 187, 299, 300, 301, 302, 241, 242, 243, 303, 304, 305, 306, 315, 316, 317, 908, 909, 910, 911, 912, 913, 914, 915, 916, 917, 918, 919, 920, 921, 922, 923, 924, 925, 926, 927, 928, 929] (by decide +kernel) (by decide +kernel)
set_option maxRecDepth 20000 in
theorem gL_law_X8_allowed : GoodIn wsL_law (wsV RL 93 RX8 yX8_allowed wsX8_allowed) := goodIn_app (goodIn_of _ (by decide +kernel)) ggL_law_X8_allowed
set_option maxRecDepth 20000 in
theorem ggL_law_X7_film : GoodIn wsL_law wsX7_film := goodIn_r _ [847, 35, 16, 133, 804, 805, 806, 2, 807, 808, 809, 810, 811, 812, 813, 37, 814, 102, 815, 816, 817, 818, 819, 820, 821, 822, 103, 134, 135, 136, 15, 137, 44, 45, 899, 900, 901, 902, 903, 904, 905, 906, 907, 930, 931, 932, 933, 934, 935, 936, 950, 951, 952] (by decide +kernel) (by decide +kernel)
set_option maxRecDepth 20000 in
theorem gL_law_X7_film : GoodIn wsL_law (wsV RL 94 RX7 yX7_film wsX7_film) := goodIn_app (goodIn_of _ (by decide +kernel)) ggL_law_X7_film
set_option maxRecDepth 20000 in
theorem ggL_law_X8_film : GoodIn wsL_law wsX8_film := goodIn_r _ [851, 109, 117, 832, 833, 5, 834, 835, 178, 179, 180, 836, 837, 838, 839, 115, 116, 181, 182, 183, 184, 185, 186, 187, 908, 909, 910, 911, 912, 913, 914, 915, 916, 917, 918, 919, 920, 921, 922, 923, 924, 925, 926, 927, 928, 929] (by decide +kernel) (by decide +kernel)
set_option maxRecDepth 20000 in
theorem gL_law_X8_film : GoodIn wsL_law (wsV RL 97 RX8 yX8_film wsX8_film) := goodIn_app (goodIn_of _ (by decide +kernel)) ggL_law_X8_film
set_option maxRecDepth 20000 in
theorem ggL_law_X7_sheet : GoodIn wsL_law wsX7_sheet := goodIn_r _ [855, 35, 805, 806, 2, 807, 808, 809, 810, 856, 857, 858, 37, 859, 102, 103, 104, 899, 900, 901, 902, 903, 904, 905, 906, 907, 950, 951, 952] (by decide +kernel) (by decide +kernel)
set_option maxRecDepth 20000 in
theorem gL_law_X7_sheet : GoodIn wsL_law (wsV RL 98 RX7 yX7_sheet wsX7_sheet) := goodIn_app (goodIn_of _ (by decide +kernel)) ggL_law_X7_sheet
set_option maxRecDepth 20000 in
theorem ggL_law_X8_sheet : GoodIn wsL_law wsX8_sheet := goodIn_r _ [863, 115, 116, 117, 832, 833, 5, 834, 835, 178, 179, 180, 908, 909, 910, 911, 912, 913, 914, 915, 916, 917, 918, 919, 920, 921, 922, 923, 924, 925, 926, 927, 928, 929] (by decide +kernel) (by decide +kernel)
set_option maxRecDepth 20000 in
theorem gL_law_X8_sheet : GoodIn wsL_law (wsV RL 101 RX8 yX8_sheet wsX8_sheet) := goodIn_app (goodIn_of _ (by decide +kernel)) ggL_law_X8_sheet
set_option maxRecDepth 20000 in
theorem ggL_law_X7_drop : GoodIn wsL_law wsX7_drop := goodIn_r _ [867, 35, 868, 869, 805, 806, 2, 807, 870, 816, 817, 37, 818, 102, 899, 900, 901, 902, 903, 904, 905, 906, 907, 950, 951, 952] (by decide +kernel) (by decide +kernel)
set_option maxRecDepth 20000 in
theorem gL_law_X7_drop : GoodIn wsL_law (wsV RL 102 RX7 yX7_drop wsX7_drop) := goodIn_app (goodIn_of _ (by decide +kernel)) ggL_law_X7_drop
set_option maxRecDepth 20000 in
theorem ggL_law_X8_drop : GoodIn wsL_law wsX8_drop := goodIn_r _ [874, 835, 115, 116, 178, 179, 5, 180, 908, 909, 910, 911, 912, 913, 914, 915, 916, 917, 918, 919, 920, 921, 922, 923, 924, 925, 926, 927, 928, 929] (by decide +kernel) (by decide +kernel)
set_option maxRecDepth 20000 in
theorem gL_law_X8_drop : GoodIn wsL_law (wsV RL 105 RX8 yX8_drop wsX8_drop) := goodIn_app (goodIn_of _ (by decide +kernel)) ggL_law_X8_drop
set_option maxRecDepth 20000 in
theorem ggL_law_X7_item : GoodIn wsL_law wsX7_item := goodIn_r _ [878, 35, 804, 805, 806, 2, 807, 808, 809, 810, 811, 812, 813, 37, 814, 102, 815, 816, 817, 818, 819, 820, 821, 822, 103, 879, 880, 881, 899, 900, 901, 902, 903, 904, 905, 906, 907, 950, 951, 952] (by decide +kernel) (by decide +kernel)
set_option maxRecDepth 20000 in
theorem gL_law_X7_item : GoodIn wsL_law (wsV RL 108 RX7 yX7_item wsX7_item) := goodIn_app (goodIn_of _ (by decide +kernel)) ggL_law_X7_item
set_option maxRecDepth 20000 in
theorem ggL_law_X8_item : GoodIn wsL_law wsX8_item := goodIn_r _ [885, 117, 832, 833, 5, 834, 835, 178, 179, 180, 836, 837, 838, 839, 115, 116, 886, 887, 888, 908, 909, 910, 911, 912, 913, 914, 915, 916, 917, 918, 919, 920, 921, 922, 923, 924, 925, 926, 927, 928, 929] (by decide +kernel) (by decide +kernel)
set_option maxRecDepth 20000 in
theorem gL_law_X8_item : GoodIn wsL_law (wsV RL 112 RX8 yX8_item wsX8_item) := goodIn_app (goodIn_of _ (by decide +kernel)) ggL_law_X8_item
set_option maxRecDepth 20000 in
theorem ggL_law_X7_copy : GoodIn wsL_law wsX7_copy := goodIn_r _ [892, 35, 868, 804, 893, 500, 501, 502, 805, 806, 2, 807, 870, 816, 817, 37, 818, 102, 894, 820, 821, 822, 103, 899, 900, 901, 902, 903, 904, 905, 906, 907, 950, 951, 952] (by decide +kernel) (by decide +kernel)
set_option maxRecDepth 20000 in
theorem gL_law_X7_copy : GoodIn wsL_law (wsV RL 113 RX7 yX7_copy wsX7_copy) := goodIn_app (goodIn_of _ (by decide +kernel)) ggL_law_X7_copy
set_option maxRecDepth 20000 in
theorem ggL_law_X8_copy : GoodIn wsL_law wsX8_copy := goodIn_r _ [898, 835, 115, 116, 117, 178, 179, 5, 180, 908, 909, 910, 911, 912, 913, 914, 915, 916, 917, 918, 919, 920, 921, 922, 923, 924, 925, 926, 927, 928, 929] (by decide +kernel) (by decide +kernel)
set_option maxRecDepth 20000 in
theorem gL_law_X8_copy : GoodIn wsL_law (wsV RL 117 RX8 yX8_copy wsX8_copy) := goodIn_app (goodIn_of _ (by decide +kernel)) ggL_law_X8_copy
