set_option maxRecDepth 20000 in
theorem ggL_law_X7_init : GoodIn wsL_law wsX7_init := goodIn_r _ [9, 10, 11, 12, 13, 14, 15, 16, 17, 18, 19, 20, 21, 22, 23, 24, 25, 26, 27, 28, 29, 30, 31, 32, 33, 34, 35, 36, 37, 38, 39, 40, 41, 42, 43, 44, 45, 46, 47, 48, 49, 50, 51, 52, 53, 54, 55, 56, 57, 58, 59, 60, 61, 62, 63, 64, 65, 66, 67, 68, 69, 70, 71, 72, 73, 74, 75, 76, 77, 78, 79, 80, 81, 82, 83, 84, 85, 86, 87, 88, 89, 90, 91, 92, 93, 94, 95, 96, 97, 98, 99, 100, 101, 102, 103, 104, 930, 931, 932, 933, 934, 935, 936, 899, 900, 901, 902, 903, 904, 905, 906, 907, 937, 938, 939, 940, 941, 942, 943, 944, 945, 946, 947, 948, 949, 950, 951, 952, 953, 954, 955, 956, 957, 958, 959, 960, 961, 962, 963, 964] (by decide +kernel) (by decide +kernel)
set_option maxRecDepth 20000 in
theorem gL_law_X7_init : GoodIn wsL_law (wsX7_init) := ggL_law_X7_init
set_option maxRecDepth 20000 in
theorem ggL_law_X8_init : GoodIn wsL_law wsX8_init := goodIn_r _ [107, 108, 11, 12, 42, 109, 110, 111, 112, 113, 114, 115, 116, 77, 117, 118, 119, 120, 121, 122, 123, 908, 909, 910, 911, 912, 913, 914, 915, 916, 917, 918, 919, 920, 921, 922, 923, 924, 925, 926, 927, 928, 929] (by decide +kernel) (by decide +kernel)
set_option maxRecDepth 20000 in
theorem gL_law_X8_init : GoodIn wsL_law (wsX8_init) := ggL_law_X8_init
set_option maxRecDepth 20000 in
theorem ggL_law_X7_node : GoodIn wsL_law wsX7_node := goodIn_r _ [127, 16, 128, 129, 130, 131, 2, 132, 133, 134, 135, 136, 15, 137, 44, 45, 138, 139, 140, 141, 29, 142, 143, 144, 73, 145, 146, 147, 148, 149, 85, 150, 88, 151, 152, 153, 154, 155, 86, 87, 89, 156, 157, 158, 159, 160, 161, 162, 163, 164, 165, 166, 167, 168, 169, 899, 900, 901, 902, 903, 904, 905, 906, 907, 930, 931, 932, 933, 934, 935, 936, 960, 961, 962, 963, 964] (by decide +kernel) (by decide +kernel)
set_option maxRecDepth 20000 in
theorem gL_law_X7_node : GoodIn wsL_law (wsV RL 13 RX7 yX7_node wsX7_node) := goodIn_app (goodIn_of _ (by decide +kernel)) ggL_law_X7_node
set_option maxRecDepth 20000 in
theorem ggL_law_X8_node : GoodIn wsL_law wsX8_node := goodIn_r _ [173, 109, 174, 175, 176, 5, 177, 178, 179, 180, 181, 182, 183, 184, 185, 186, 187, 188, 189, 190, 191, 192, 193, 194, 195, 196, 197, 198, 199, 200, 201, 202, 203, 204, 205, 206, 207, 908, 909, 910, 911, 912, 913, 914, 915, 916, 917, 918, 919, 920, 921, 922, 923, 924, 925, 926, 927, 928, 929] (by decide +kernel) (by decide +kernel)
set_option maxRecDepth 20000 in
theorem gL_law_X8_node : GoodIn wsL_law (wsV RL 17 RX8 yX8_node wsX8_node) := goodIn_app (goodIn_of _ (by decide +kernel)) ggL_law_X8_node
set_option maxRecDepth 20000 in
theorem ggL_law_X7_count : GoodIn wsL_law wsX7_count := goodIn_r _ [211, 16, 133, 212, 213, 214, 215, 20, 216, 217, 218, 219, 15, 220, 41, 43, 221, 222, 223, 224, 225, 226, 227, 138, 139, 140, 2, 141, 29, 142, 143, 144, 73, 145, 146, 147, 148, 149, 85, 150, 88, 151, 152, 153, 154, 155, 86, 87, 89, 228, 229, 230, 231, 166, 167, 168, 169, 160, 161, 162, 163, 164, 165, 899, 900, 901, 902, 903, 904, 905, 906, 907, 930, 931, 932, 933, 934, 935, 936, 937, 938, 960, 961, 962, 963, 964] (by decide +kernel) (by decide +kernel)
set_option maxRecDepth 20000 in
theorem gL_law_X7_count : GoodIn wsL_law (wsV RL 18 RX7 yX7_count wsX7_count) := goodIn_app (goodIn_of _ (by decide +kernel)) ggL_law_X7_count
set_option maxRecDepth 20000 in
theorem ggL_law_X8_count : GoodIn wsL_law wsX8_count := goodIn_r _ [235, 109, 236, 237, 238, 239, 5, 240, 241, 242, 243, 185, 186, 187, 200, 201, 202, 203, 204, 205, 206, 207, 192, 193, 194, 195, 196, 197, 198, 199, 908, 909, 910, 911, 912, 913, 914, 915, 916, 917, 918, 919, 920, 921, 922, 923, 924, 925, 926, 927, 928, 929] (by decide +kernel) (by decide +kernel)
set_option maxRecDepth 20000 in
theorem gL_law_X8_count : GoodIn wsL_law (wsV RL 22 RX8 yX8_count wsX8_count) := goodIn_app (goodIn_of _ (by decide +kernel)) ggL_law_X8_count
set_option maxRecDepth 20000 in
theorem ggL_law_X7_would : GoodIn wsL_law wsX7_would := goodIn_r _ [247, 16, 213, 212, 29, 248, 249, 250, 2, 251, 214, 215, 138, 139, 140, 141, 142, 143, 144, 73, 145, 146, 147, 148, 149, 85, 150, 88, 151, 152, 153, 154, 155, 86, 87, 89, 252, 253, 254, 255, 256, 257, 258, 259, 260, 261, 262, 263, 264, 265, 164, 165, 266, 267, 268, 269, 222, 223, 224, 225, 226, 227, 270, 271, 272, 273, 274, 275, 276, 277, 278, 279, 280, 281, 282, 283, 284, 899, 900, 901, 902, 903, 904, 905, 906, 907, 930, 931, 932, 933, 934, 935, 936, 960, 961, 962, 963, 964] (by decide +kernel) (by decide +kernel)
set_option maxRecDepth 20000 in
theorem gL_law_X7_would : GoodIn wsL_law (wsV RL 23 RX7 yX7_would wsX7_would) := goodIn_app (goodIn_of _ (by decide +kernel)) ggL_law_X7_would
set_option maxRecDepth 20000 in
theorem ggL_law_X8_would : GoodIn wsL_law wsX8_would := goodIn_r _ [288, 109, 289, 290, 291, 5, 292, 293, 294, 178, 179, 180, 295, 296, 297, 298, 185, 186, 187, 299, 300, 301, 302, 241, 242, 243, 303, 304, 305, 306, 307, 308, 309, 310, 311, 312, 313, 314, 315, 316, 317, 318, 319, 320, 321, 322, 323, 324, 325, 196, 197, 198, 199, 908, 909, 910, 911, 912, 913, 914, 915, 916, 917, 918, 919, 920, 921, 922, 923, 924, 925, 926, 927, 928, 929] (by decide +kernel) (by decide +kernel)
set_option maxRecDepth 20000 in
theorem gL_law_X8_would : GoodIn wsL_law (wsV RL 26 RX8 yX8_would wsX8_would) := goodIn_app (goodIn_of _ (by decide +kernel)) ggL_law_X8_would
set_option maxRecDepth 20000 in
theorem ggL_law_X7_team : GoodIn wsL_law wsX7_team := goodIn_r _ [329, 27, 330, 331, 2, 332, 333, 334, 335, 138, 139, 140, 141, 29, 16, 142, 143, 144, 73, 145, 146, 147, 148, 149, 85, 150, 88, 151, 152, 153, 154, 155, 86, 87, 89, 336, 337, 338, 26, 339, 64, 340, 341, 342, 343, 344, 65, 62, 67, 345, 346, 347, 348, 66, 349, 350, 351, 352, 353, 354, 355, 61, 356, 78, 79, 80, 81, 357, 358, 359, 360, 75, 76, 74, 361, 362, 363, 364, 365, 366, 367, 267, 268, 269, 222, 223, 224, 225, 226, 227, 368, 263, 264, 265, 369, 370, 371, 372, 164, 165, 373, 278, 279, 374, 281, 282, 283, 375, 271, 272, 376, 274, 275, 276, 377, 378, 379, 380, 899, 900, 901, 902, 903, 904, 905, 906, 907, 960, 961, 962, 963, 964, 930, 931, 932, 933, 934, 935, 936, 939, 940, 941, 942, 943, 953, 954, 955, 956, 957, 958, 959] (by decide +kernel) (by decide +kernel)
set_option maxRecDepth 20000 in
theorem gL_law_X7_team : GoodIn wsL_law (wsV RL 27 RX7 yX7_team wsX7_team) := goodIn_app (goodIn_of _ (by decide +kernel)) ggL_law_X7_team
set_option maxRecDepth 20000 in
theorem ggL_law_X8_team : GoodIn wsL_law wsX8_team := goodIn_r _ [384, 385, 386, 5, 387, 388, 178, 179, 180, 389, 390, 391, 392, 109, 393, 394, 395, 396, 397, 398, 118, 399, 400, 401, 402, 122, 119, 120, 121, 322, 323, 324, 325, 403, 404, 405, 406, 295, 296, 297, 298, 185, 186, 187, 299, 300, 301, 302, 241, 242, 243, 303, 304, 305, 306, 311, 312, 313, 314, 315, 316, 317, 318, 319, 320, 321, 196, 197, 198, 199, 289, 290, 291, 292, 293, 294, 908, 909, 910, 911, 912, 913, 914, 915, 916, 917, 918, 919, 920, 921, 922, 923, 924, 925, 926, 927, 928, 929] (by decide +kernel) (by decide +kernel)
set_option maxRecDepth 20000 in
theorem gL_law_X8_team : GoodIn wsL_law (wsV RL 30 RX8 yX8_team wsX8_team) := goodIn_app (goodIn_of _ (by decide +kernel)) ggL_law_X8_team
set_option maxRecDepth 20000 in
theorem ggL_law_X7_fewest : GoodIn wsL_law wsX7_fewest := goodIn_r _ [410, 27, 330, 331, 2, 332, 411, 412, 413, 333, 334, 335, 138, 139, 140, 141, 29, 16, 142, 143, 144, 73, 145, 146, 147, 148, 149, 85, 150, 88, 151, 152, 153, 154, 155, 86, 87, 89, 414, 342, 343, 26, 344, 65, 62, 67, 345, 346, 347, 348, 66, 64, 349, 350, 351, 352, 353, 354, 355, 61, 356, 78, 79, 80, 81, 357, 358, 359, 360, 75, 76, 74, 361, 362, 363, 364, 365, 366, 367, 267, 268, 269, 222, 223, 224, 225, 226, 227, 368, 263, 264, 265, 369, 370, 371, 372, 164, 165, 373, 278, 279, 374, 281, 282, 283, 375, 271, 272, 376, 274, 275, 276, 377, 378, 379, 380, 899, 900, 901, 902, 903, 904, 905, 906, 907, 960, 961, 962, 963, 964, 930, 931, 932, 933, 934, 935, 936, 939, 940, 941, 942, 943, 953, 954, 955, 956, 957, 958, 959] (by decide +kernel) (by decide +kernel)
set_option maxRecDepth 20000 in
theorem gL_law_X7_fewest : GoodIn wsL_law (wsV RL 31 RX7 yX7_fewest wsX7_fewest) := goodIn_app (goodIn_of _ (by decide +kernel)) ggL_law_X7_fewest
set_option maxRecDepth 20000 in
theorem ggL_law_X8_fewest : GoodIn wsL_law wsX8_fewest := goodIn_r _ [418, 419, 121, 385, 386, 5, 387, 388, 178, 179, 180, 393, 394, 395, 396, 397, 398, 118, 109, 399, 400, 401, 402, 122, 119, 120, 322, 323, 324, 325, 403, 404, 405, 406, 295, 296, 297, 298, 185, 186, 187, 299, 300, 301, 302, 241, 242, 243, 303, 304, 305, 306, 311, 312, 313, 314, 315, 316, 317, 318, 319, 320, 321, 196, 197, 198, 199, 289, 290, 291, 292, 293, 294, 908, 909, 910, 911, 912, 913, 914, 915, 916, 917, 918, 919, 920, 921, 922, 923, 924, 925, 926, 927, 928, 929] (by decide +kernel) (by decide +kernel)
set_option maxRecDepth 20000 in
theorem gL_law_X8_fewest : GoodIn wsL_law (wsV RL 35 RX8 yX8_fewest wsX8_fewest) := goodIn_app (goodIn_of _ (by decide +kernel)) ggL_law_X8_fewest
set_option maxRecDepth 20000 in
theorem ggL_law_X7_plan : GoodIn wsL_law wsX7_plan := goodIn_r _ [423, 27, 330, 331, 2, 332, 333, 334, 335, 138, 139, 140, 141, 29, 16, 142, 143, 144, 73, 145, 146, 147, 148, 149, 85, 150, 88, 151, 152, 153, 154, 155, 86, 87, 89, 336, 337, 338, 26, 339, 64, 340, 341, 342, 343, 344, 65, 62, 67, 345, 346, 347, 348, 66, 349, 350, 351, 352, 353, 354, 355, 61, 356, 78, 79, 80, 81, 357, 358, 359, 360, 75, 76, 74, 361, 362, 363, 364, 365, 366, 367, 267, 268, 269, 222, 223, 224, 225, 226, 227, 368, 263, 264, 265, 369, 370, 371, 372, 164, 165, 373, 278, 279, 374, 281, 282, 283, 375, 271, 272, 376, 274, 275, 276, 377, 378, 379, 380, 424, 425, 426, 427, 428, 429, 430, 431, 432, 899, 900, 901, 902, 903, 904, 905, 906, 907, 960, 961, 962, 963, 964, 930, 931, 932, 933, 934, 935, 936, 939, 940, 941, 942, 943, 953, 954, 955, 956, 957, 958, 959] (by decide +kernel) (by decide +kernel)
set_option maxRecDepth 20000 in
theorem gL_law_X7_plan : GoodIn wsL_law (wsV RL 36 RX7 yX7_plan wsX7_plan) := goodIn_app (goodIn_of _ (by decide +kernel)) ggL_law_X7_plan
set_option maxRecDepth 20000 in
theorem ggL_law_X8_plan : GoodIn wsL_law wsX8_plan := goodIn_r _ [436, 385, 386, 5, 387, 388, 178, 179, 180, 389, 390, 391, 392, 109, 393, 394, 395, 396, 397, 398, 118, 399, 400, 401, 402, 122, 119, 120, 121, 322, 323, 324, 325, 403, 404, 405, 406, 295, 296, 297, 298, 185, 186, 187, 299, 300, 301, 302, 241, 242, 243, 303, 304, 305, 306, 311, 312, 313, 314, 315, 316, 317, 318, 319, 320, 321, 196, 197, 198, 199, 289, 290, 291, 292, 293, 294, 437, 438, 439, 440, 908, 909, 910, 911, 912, 913, 914, 915, 916, 917, 918, 919, 920, 921, 922, 923, 924, 925, 926, 927, 928, 929] (by decide +kernel) (by decide +kernel)
set_option maxRecDepth 20000 in
theorem gL_law_X8_plan : GoodIn wsL_law (wsV RL 39 RX8 yX8_plan wsX8_plan) := goodIn_app (goodIn_of _ (by decide +kernel)) ggL_law_X8_plan
set_option maxRecDepth 20000 in
theorem ggL_law_X7_rest : GoodIn wsL_law wsX7_rest := goodIn_r _ [444, 27, 16, 333, 334, 2, 335, 138, 139, 140, 141, 29, 142, 143, 144, 73, 145, 146, 147, 148, 149, 85, 150, 88, 151, 152, 153, 154, 155, 86, 87, 89, 445, 446, 447, 26, 448, 62, 449, 450, 451, 452, 67, 453, 454, 455, 456, 353, 354, 355, 61, 356, 78, 79, 80, 81, 357, 358, 359, 360, 75, 76, 74, 361, 362, 363, 364, 365, 366, 367, 267, 268, 269, 222, 223, 224, 225, 226, 227, 368, 263, 264, 265, 369, 370, 371, 372, 164, 165, 373, 278, 279, 374, 281, 282, 283, 375, 271, 272, 376, 274, 275, 276, 377, 378, 379, 380, 457, 458, 459, 460, 428, 429, 430, 431, 432, 899, 900, 901, 902, 903, 904, 905, 906, 907, 960, 961, 962, 963, 964, 930, 931, 932, 933, 934, 935, 936, 939, 940, 941, 942, 943, 953, 954, 955, 956, 957, 958, 959] (by decide +kernel) (by decide +kernel)
set_option maxRecDepth 20000 in
theorem gL_law_X7_rest : GoodIn wsL_law (wsV RL 40 RX7 yX7_rest wsX7_rest) := goodIn_app (goodIn_of _ (by decide +kernel)) ggL_law_X7_rest
set_option maxRecDepth 20000 in
theorem ggL_law_X8_rest : GoodIn wsL_law wsX8_rest := goodIn_r _ [464, 109, 121, 178, 179, 5, 180, 393, 394, 395, 396, 397, 398, 118, 399, 400, 401, 402, 122, 119, 120, 322, 323, 324, 325, 403, 404, 405, 406, 295, 296, 297, 298, 185, 186, 187, 299, 300, 301, 302, 241, 242, 243, 303, 304, 305, 306, 311, 312, 313, 314, 315, 316, 317, 318, 319, 320, 321, 196, 197, 198, 199, 289, 290, 291, 292, 293, 294, 437, 438, 439, 440, 908, 909, 910, 911, 912, 913, 914, 915, 916, 917, 918, 919, 920, 921, 922, 923, 924, 925, 926, 927, 928, 929] (by decide +kernel) (by decide +kernel)
set_option maxRecDepth 20000 in
theorem gL_law_X8_rest : GoodIn wsL_law (wsV RL 43 RX8 yX8_rest wsX8_rest) := goodIn_app (goodIn_of _ (by decide +kernel)) ggL_law_X8_rest
set_option maxRecDepth 20000 in
theorem ggL_law_X7_lost : GoodIn wsL_law wsX7_lost := goodIn_r _ [468, 16, 213, 333, 334, 2, 335, 469, 470, 471, 472, 29, 212, 138, 139, 140, 141, 142, 143, 144, 73, 145, 146, 147, 148, 149, 85, 150, 88, 151, 152, 153, 154, 155, 86, 87, 89, 284, 222, 223, 224, 225, 226, 227, 280, 281, 282, 283, 473, 474, 475, 476, 477, 478, 899, 900, 901, 902, 903, 904, 905, 906, 907, 930, 931, 932, 933, 934, 935, 936, 960, 961, 962, 963, 964] (by decide +kernel) (by decide +kernel)
set_option maxRecDepth 20000 in
theorem gL_law_X7_lost : GoodIn wsL_law (wsV RL 44 RX7 yX7_lost wsX7_lost) := goodIn_app (goodIn_of _ (by decide +kernel)) ggL_law_X7_lost
