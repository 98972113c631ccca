set_option maxRecDepth 20000 in
theorem ggL_law_X8_lost : GoodIn wsL_law wsX8_lost := goodIn_r _ [482, 294, 109, 178, 179, 5, 180, 322, 323, 324, 325, 185, 186, 187, 318, 319, 320, 321, 196, 197, 198, 199, 908, 909, 910, 911, 912, 913, 914, 915, 916, 917, 918, 919, 920, 921, 922, 923, 924, 925, 926, 927, 928, 929] (by decide +kernel) (by decide +kernel)
set_option maxRecDepth 20000 in
theorem gL_law_X8_lost : GoodIn wsL_law (wsV RL 47 RX8 yX8_lost wsX8_lost) := goodIn_app (goodIn_of _ (by decide +kernel)) ggL_law_X8_lost
set_option maxRecDepth 20000 in
theorem ggL_law_X7_act : GoodIn wsL_law wsX7_act := goodIn_r _ [486, 20, 16, 213, 212, 248, 249, 250, 2, 251, 29, 214, 215, 138, 139, 140, 141, 142, 143, 144, 73, 145, 146, 147, 148, 149, 85, 150, 88, 151, 152, 153, 154, 155, 86, 87, 89, 252, 253, 254, 255, 256, 257, 258, 259, 260, 261, 262, 263, 264, 265, 164, 165, 266, 267, 268, 269, 222, 223, 224, 225, 226, 227, 270, 271, 272, 273, 274, 275, 276, 487, 488, 489, 19, 490, 53, 55, 491, 492, 493, 494, 495, 496, 497, 15, 498, 41, 43, 499, 500, 501, 502, 44, 45, 46, 47, 48, 277, 278, 279, 503, 504, 505, 506, 280, 281, 282, 283, 284, 899, 900, 901, 902, 903, 904, 905, 906, 907, 930, 931, 932, 933, 934, 935, 936, 960, 961, 962, 963, 964, 937, 938] (by decide +kernel) (by decide +kernel)
set_option maxRecDepth 20000 in
theorem gL_law_X7_act : GoodIn wsL_law (wsV RL 48 RX7 yX7_act wsX7_act) := goodIn_app (goodIn_of _ (by decide +kernel)) ggL_law_X7_act
set_option maxRecDepth 20000 in
theorem ggL_law_X8_act : GoodIn wsL_law wsX8_act := goodIn_r _ [510, 109, 289, 290, 291, 5, 292, 293, 294, 178, 179, 180, 295, 296, 297, 298, 185, 186, 187, 299, 300, 301, 302, 241, 242, 243, 303, 304, 305, 306, 511, 512, 513, 514, 236, 110, 515, 516, 517, 307, 308, 309, 310, 311, 312, 313, 314, 315, 316, 317, 318, 319, 320, 321, 322, 323, 324, 325, 196, 197, 198, 199, 908, 909, 910, 911, 912, 913, 914, 915, 916, 917, 918, 919, 920, 921, 922, 923, 924, 925, 926, 927, 928, 929] (by decide +kernel) (by decide +kernel)
set_option maxRecDepth 20000 in
theorem gL_law_X8_act : GoodIn wsL_law (wsV RL 51 RX8 yX8_act wsX8_act) := goodIn_app (goodIn_of _ (by decide +kernel)) ggL_law_X8_act
set_option maxRecDepth 20000 in
theorem ggL_law_X7_link : GoodIn wsL_law wsX7_link := goodIn_r _ [521, 16, 20, 129, 130, 131, 2, 132, 133, 333, 334, 335, 522, 523, 524, 15, 525, 43, 164, 165, 487, 488, 489, 19, 490, 53, 55, 491, 492, 493, 494, 495, 496, 497, 498, 41, 499, 500, 501, 502, 44, 45, 46, 47, 48, 526, 527, 528, 529, 503, 504, 505, 506, 212, 213, 138, 139, 140, 141, 29, 142, 143, 144, 73, 145, 146, 147, 148, 149, 85, 150, 88, 151, 152, 153, 154, 155, 86, 87, 89, 280, 281, 282, 283, 284, 222, 223, 224, 225, 226, 227, 899, 900, 901, 902, 903, 904, 905, 906, 907, 930, 931, 932, 933, 934, 935, 936, 937, 938, 960, 961, 962, 963, 964] (by decide +kernel) (by decide +kernel)
set_option maxRecDepth 20000 in
theorem gL_law_X7_link : GoodIn wsL_law (wsV RL 52 RX7 yX7_link wsX7_link) := goodIn_app (goodIn_of _ (by decide +kernel)) ggL_law_X7_link
set_option maxRecDepth 20000 in
theorem ggL_law_X8_link : GoodIn wsL_law wsX8_link := goodIn_r _ [533, 109, 174, 175, 176, 5, 177, 178, 179, 180, 303, 304, 305, 306, 185, 186, 187, 511, 512, 513, 514, 236, 110, 515, 516, 517, 534, 535, 536, 537, 538, 539, 540, 541, 318, 319, 320, 321, 322, 323, 324, 325, 196, 197, 198, 199, 241, 242, 243, 908, 909, 910, 911, 912, 913, 914, 915, 916, 917, 918, 919, 920, 921, 922, 923, 924, 925, 926, 927, 928, 929] (by decide +kernel) (by decide +kernel)
set_option maxRecDepth 20000 in
theorem gL_law_X8_link : GoodIn wsL_law (wsV RL 55 RX8 yX8_link wsX8_link) := goodIn_app (goodIn_of _ (by decide +kernel)) ggL_law_X8_link
set_option maxRecDepth 20000 in
theorem ggL_law_X7_tell : GoodIn wsL_law wsX7_tell := goodIn_r _ [545, 16, 214, 215, 20, 333, 334, 2, 335, 330, 331, 332, 411, 412, 413, 487, 488, 489, 19, 490, 53, 55, 491, 492, 493, 494, 495, 496, 497, 15, 498, 41, 43, 499, 500, 501, 502, 44, 45, 46, 47, 48, 899, 900, 901, 902, 903, 904, 905, 906, 907, 930, 931, 932, 933, 934, 935, 936, 937, 938] (by decide +kernel) (by decide +kernel)
set_option maxRecDepth 20000 in
theorem gL_law_X7_tell : GoodIn wsL_law (wsV RL 56 RX7 yX7_tell wsX7_tell) := goodIn_app (goodIn_of _ (by decide +kernel)) ggL_law_X7_tell
set_option maxRecDepth 20000 in
theorem ggL_law_X8_tell : GoodIn wsL_law wsX8_tell := goodIn_r _ [549, 388, 419, 109, 178, 179, 5, 180, 511, 512, 513, 514, 236, 110, 515, 516, 517, 908, 909, 910, 911, 912, 913, 914, 915, 916, 917, 918, 919, 920, 921, 922, 923, 924, 925, 926, 927, 928, 929] (by decide +kernel) (by decide +kernel)
set_option maxRecDepth 20000 in
theorem gL_law_X8_tell : GoodIn wsL_law (wsV RL 59 RX8 yX8_tell wsX8_tell) := goodIn_app (goodIn_of _ (by decide +kernel)) ggL_law_X8_tell
set_option maxRecDepth 20000 in
theorem ggL_law_X7_type : GoodIn wsL_law wsX7_type := goodIn_r _ [553, 33, 554, 555, 556, 557, 32, 558, 93, 96, 899, 900, 901, 902, 903, 904, 905, 906, 907, 944, 945, 946, 947, 948, 949] (by decide +kernel) (by decide +kernel)
set_option maxRecDepth 20000 in
theorem gL_law_X7_type : GoodIn wsL_law (wsV RL 60 RX7 yX7_type wsX7_type) := goodIn_app (goodIn_of _ (by decide +kernel)) ggL_law_X7_type
set_option maxRecDepth 20000 in
theorem ggL_law_X8_type : GoodIn wsL_law wsX8_type := goodIn_r _ [562, 563, 564, 565, 114, 178, 179, 5, 180, 908, 909, 910, 911, 912, 913, 914, 915, 916, 917, 918, 919, 920, 921, 922, 923, 924, 925, 926, 927, 928, 929] (by decide +kernel) (by decide +kernel)
set_option maxRecDepth 20000 in
theorem gL_law_X8_type : GoodIn wsL_law (wsV RL 63 RX8 yX8_type wsX8_type) := goodIn_app (goodIn_of _ (by decide +kernel)) ggL_law_X8_type
set_option maxRecDepth 20000 in
theorem ggL_law_X7_read : GoodIn wsL_law wsX7_read := goodIn_r _ [569, 33, 554, 20, 16, 570, 571, 572, 573, 574, 32, 575, 97, 98, 94, 95, 93, 576, 577, 578, 579, 96, 580, 581, 582, 583, 584, 585, 586, 587, 588, 589, 590, 591, 592, 593, 594, 595, 596, 597, 598, 599, 600, 601, 602, 603, 604, 605, 606, 607, 608, 609, 610, 611, 612, 613, 614, 615, 616, 617, 618, 619, 620, 621, 622, 623, 624, 625, 626, 627, 628, 629, 630, 631, 632, 633, 634, 635, 636, 637, 638, 639, 640, 641, 642, 643, 644, 645, 646, 647, 648, 649, 650, 651, 652, 653, 654, 655, 656, 657, 658, 659, 660, 661, 662, 663, 664, 665, 666, 667, 668, 164, 2, 165, 669, 670, 671, 672, 487, 488, 489, 19, 490, 53, 55, 491, 492, 493, 494, 495, 496, 497, 15, 498, 41, 43, 499, 500, 501, 502, 44, 45, 46, 47, 48, 673, 674, 675, 676, 217, 218, 219, 220, 221, 222, 223, 224, 225, 226, 227, 899, 900, 901, 902, 903, 904, 905, 906, 907, 944, 945, 946, 947, 948, 949, 937, 938, 930, 931, 932, 933, 934, 935, 936] (by decide +kernel) (by decide +kernel)
set_option maxRecDepth 20000 in
theorem gL_law_X7_read : GoodIn wsL_law (wsV RL 64 RX7 yX7_read wsX7_read) := goodIn_app (goodIn_of _ (by decide +kernel)) ggL_law_X7_read
set_option maxRecDepth 20000 in
theorem ggL_law_X8_read : GoodIn wsL_law wsX8_read := goodIn_r _ [680, 681, 565, 682, 109, 683, 123, 684, 685, 686, 5, 687, 688, 689, 690, 691, 692, 693, 694, 695, 114, 696, 697, 698, 699, 700, 701, 702, 703, 704, 705, 178, 179, 180, 706, 707, 708, 709, 419, 388, 710, 711, 712, 713, 714, 715, 716, 717, 718, 719, 720, 721, 722, 723, 724, 725, 726, 727, 728, 729, 730, 731, 732, 733, 185, 186, 187, 511, 512, 513, 514, 236, 110, 515, 516, 517, 237, 238, 239, 240, 241, 242, 243, 908, 909, 910, 911, 912, 913, 914, 915, 916, 917, 918, 919, 920, 921, 922, 923, 924, 925, 926, 927, 928, 929] (by decide +kernel) (by decide +kernel)
set_option maxRecDepth 20000 in
theorem gL_law_X8_read : GoodIn wsL_law (wsV RL 68 RX8 yX8_read wsX8_read) := goodIn_app (goodIn_of _ (by decide +kernel)) ggL_law_X8_read
set_option maxRecDepth 20000 in
theorem ggL_law_X7_drift : GoodIn wsL_law wsX7_drift := goodIn_r _ [737, 20, 16, 487, 488, 489, 19, 490, 53, 55, 491, 492, 493, 494, 495, 496, 497, 15, 498, 41, 43, 499, 500, 501, 502, 44, 45, 46, 47, 48, 738, 739, 740, 2, 741, 742, 743, 744, 745, 133, 526, 527, 528, 529, 503, 504, 505, 506, 212, 213, 138, 139, 140, 141, 29, 142, 143, 144, 73, 145, 146, 147, 148, 149, 85, 150, 88, 151, 152, 153, 154, 155, 86, 87, 89, 280, 281, 282, 283, 284, 222, 223, 224, 225, 226, 227, 217, 218, 219, 220, 221, 899, 900, 901, 902, 903, 904, 905, 906, 907, 937, 938, 930, 931, 932, 933, 934, 935, 936, 960, 961, 962, 963, 964] (by decide +kernel) (by decide +kernel)
set_option maxRecDepth 20000 in
theorem gL_law_X7_drift : GoodIn wsL_law (wsV RL 69 RX7 yX7_drift wsX7_drift) := goodIn_app (goodIn_of _ (by decide +kernel)) ggL_law_X7_drift
set_option maxRecDepth 20000 in
theorem ggL_law_X8_drift : GoodIn wsL_law wsX8_drift := goodIn_r _ [749, 750, 178, 179, 5, 180, 751, 752, 753, 754, 109, 755, 756, 757, 758, 511, 512, 513, 514, 236, 110, 515, 516, 517, 534, 535, 536, 537, 538, 539, 540, 541, 318, 319, 320, 321, 322, 323, 324, 325, 196, 197, 198, 199, 185, 186, 187, 237, 238, 239, 240, 241, 242, 243, 908, 909, 910, 911, 912, 913, 914, 915, 916, 917, 918, 919, 920, 921, 922, 923, 924, 925, 926, 927, 928, 929] (by decide +kernel) (by decide +kernel)
set_option maxRecDepth 20000 in
theorem gL_law_X8_drift : GoodIn wsL_law (wsV RL 72 RX8 yX8_drift wsX8_drift) := goodIn_app (goodIn_of _ (by decide +kernel)) ggL_law_X8_drift
set_option maxRecDepth 20000 in
theorem ggL_law_X7_undo : GoodIn wsL_law wsX7_undo := goodIn_r _ [762, 20, 16, 216, 763, 764, 765, 19, 766, 53, 55, 495, 496, 497, 15, 498, 41, 43, 499, 500, 501, 502, 44, 45, 46, 47, 48, 899, 900, 901, 902, 903, 904, 905, 906, 907, 937, 938, 930, 931, 932, 933, 934, 935, 936] (by decide +kernel) (by decide +kernel)
set_option maxRecDepth 20000 in
theorem gL_law_X7_undo : GoodIn wsL_law (wsV RL 73 RX7 yX7_undo wsX7_undo) := goodIn_app (goodIn_of _ (by decide +kernel)) ggL_law_X7_undo
set_option maxRecDepth 20000 in
theorem ggL_law_X8_undo : GoodIn wsL_law wsX8_undo := goodIn_r _ [770, 236, 110, 109, 515, 516, 5, 517, 908, 909, 910, 911, 912, 913, 914, 915, 916, 917, 918, 919, 920, 921, 922, 923, 924, 925, 926, 927, 928, 929] (by decide +kernel) (by decide +kernel)
set_option maxRecDepth 20000 in
theorem gL_law_X8_undo : GoodIn wsL_law (wsV RL 76 RX8 yX8_undo wsX8_undo) := goodIn_app (goodIn_of _ (by decide +kernel)) ggL_law_X8_undo
set_option maxRecDepth 20000 in
theorem ggL_law_X7_seed : GoodIn wsL_law wsX7_seed := goodIn_r _ [774, 16, 742, 899, 900, 901, 902, 903, 904, 905, 906, 907, 930, 931, 932, 933, 934, 935, 936] (by decide +kernel) (by decide +kernel)
set_option maxRecDepth 20000 in
theorem gL_law_X7_seed : GoodIn wsL_law (wsV RL 77 RX7 yX7_seed wsX7_seed) := goodIn_app (goodIn_of _ (by decide +kernel)) ggL_law_X7_seed
set_option maxRecDepth 20000 in
theorem ggL_law_X8_seed : GoodIn wsL_law wsX8_seed := goodIn_r _ [778, 109, 908, 909, 910, 911, 912, 913, 914, 915, 916, 917, 918, 919, 920, 921, 922, 923, 924, 925, 926, 927, 928, 929] (by decide +kernel) (by decide +kernel)
set_option maxRecDepth 20000 in
theorem gL_law_X8_seed : GoodIn wsL_law (wsV RL 80 RX8 yX8_seed wsX8_seed) := goodIn_app (goodIn_of _ (by decide +kernel)) ggL_law_X8_seed
