/-! THE LAW: the words of its calls. -/
set_option maxRecDepth 20000 in
theorem ggL_law_X4_marks : GoodIn wsL_law wsX4_marks := goodIn_r _ [779, 18, 681, 35, 780, 621, 622, 17, 623, 387, 266, 267, 268, 48, 49, 536, 537, 538, 539, 540, 541, 542, 581, 582, 583, 2, 584, 28, 27, 585, 586, 587, 26, 588, 80, 589, 590, 591, 592, 77, 78, 79, 81, 82, 63, 64, 392, 354, 355, 356, 88, 89, 94, 95, 478, 366, 367, 368, 394, 395, 90, 91, 92, 93, 682, 683, 684, 34, 685, 71, 609, 663, 608, 686, 687, 688, 689, 614, 437, 438, 439, 440, 441, 442, 443, 444, 358, 359, 360, 53, 42, 445, 421, 422, 423, 51, 50, 446, 447, 448, 449, 450, 451, 452, 453, 454, 455, 456, 457, 458, 459, 460, 461, 462, 463, 464, 465, 466, 467, 153, 468, 469, 470, 471, 472, 473, 362, 363, 364, 43, 474, 475, 476, 477, 690, 691, 692, 693, 72, 694, 695, 696, 697, 698, 699, 700, 672, 566, 567, 568, 701, 702, 703, 704, 705, 706, 707, 708, 880, 881, 882, 883, 884, 885, 886, 887, 888, 889, 890, 932, 933, 934, 935, 936, 937, 938, 939, 940, 941, 942, 943, 950, 951, 952, 953, 954, 955, 956, 957, 958, 959, 960, 961] (by decide +kernel) (by decide +kernel)
set_option maxRecDepth 20000 in
theorem gL_law_X4_marks : GoodIn wsL_law (wsV RL 88 RX4 yX4_marks wsX4_marks) := goodIn_app (goodIn_of _ (by decide +kernel)) ggL_law_X4_marks
set_option maxRecDepth 20000 in
theorem ggL_law_X5_marks : GoodIn wsL_law wsX5_marks := goodIn_r _ [784, 713, 404, 405, 406, 5, 407, 101, 100, 773, 774, 775, 130, 131, 132, 714, 715, 716, 717, 117, 118, 632, 633, 634, 635, 493, 113, 115, 106, 489, 490, 491, 492, 293, 488, 487, 114, 494, 495, 496, 497, 498, 499, 500, 105, 428, 429, 430, 431, 294, 102, 501, 502, 503, 504, 104, 505, 506, 507, 508, 509, 510, 511, 512, 513, 514, 515, 516, 517, 518, 519, 103, 520, 521, 522, 523, 524, 525, 526, 527, 528, 529, 530, 718, 719, 720, 721, 573, 574, 575, 576, 640, 641, 642, 643, 722, 723, 724, 891, 892, 893, 894, 895, 896, 897, 898, 899, 900, 901, 902, 903, 904, 905, 906, 907, 908, 909, 910, 911, 912, 913, 914, 915, 916, 917, 918, 919, 920, 921, 922, 923, 924, 925, 926, 927, 928, 929, 930, 931] (by decide +kernel) (by decide +kernel)
set_option maxRecDepth 20000 in
theorem gL_law_X5_marks : GoodIn wsL_law (wsV RL 92 RX5 yX5_marks wsX5_marks) := goodIn_app (goodIn_of _ (by decide +kernel)) ggL_law_X5_marks
set_option maxRecDepth 20000 in
theorem ggL_law_X4_mark : GoodIn wsL_law wsX4_mark := goodIn_r _ [788, 789, 348, 349, 350, 2, 351, 18, 352, 790, 791, 792, 793, 794, 27, 353, 354, 355, 26, 356, 63, 88, 89, 795, 796, 797, 798, 799, 357, 358, 359, 17, 360, 53, 42, 800, 801, 802, 803, 804, 365, 366, 367, 368, 64, 805, 806, 807, 808, 809, 810, 811, 812, 813, 814, 815, 816, 817, 818, 819, 416, 880, 881, 882, 883, 884, 885, 886, 887, 888, 889, 890, 932, 933, 934, 935, 936, 937, 938, 939, 940, 941, 942, 943, 950, 951, 952, 953, 954, 955, 956, 957] (by decide +kernel) (by decide +kernel)
set_option maxRecDepth 20000 in
theorem gL_law_X4_mark : GoodIn wsL_law (wsV RL 93 RX4 yX4_mark wsX4_mark) := goodIn_app (goodIn_of _ (by decide +kernel)) ggL_law_X4_mark
set_option maxRecDepth 20000 in
theorem ggL_law_X5_mark : GoodIn wsL_law wsX5_mark := goodIn_r _ [823, 824, 825, 826, 827, 828, 106, 130, 131, 5, 132, 373, 374, 375, 376, 293, 829, 830, 831, 832, 833, 834, 835, 836, 837, 104, 838, 839, 840, 841, 842, 891, 892, 893, 894, 895, 896, 897, 898, 899, 900, 901, 902, 903, 904, 905, 906, 907, 908, 909, 910, 911, 912, 913, 914, 915, 916, 917, 918, 919, 920, 921, 922, 923, 924, 925, 926, 927, 928, 929, 930, 931] (by decide +kernel) (by decide +kernel)
set_option maxRecDepth 20000 in
theorem gL_law_X5_mark : GoodIn wsL_law (wsV RL 96 RX5 yX5_mark wsX5_mark) := goodIn_app (goodIn_of _ (by decide +kernel)) ggL_law_X5_mark
set_option maxRecDepth 20000 in
theorem ggL_law_X4_keep : GoodIn wsL_law wsX4_keep := goodIn_r _ [846, 29, 27, 31, 416, 847, 848, 849, 2, 850, 851, 590, 591, 26, 592, 77, 78, 79, 80, 81, 82, 63, 64, 392, 354, 355, 356, 88, 89, 94, 95, 478, 366, 367, 368, 880, 881, 882, 883, 884, 885, 886, 887, 888, 889, 890, 950, 951, 952, 953, 954, 955, 956, 957] (by decide +kernel) (by decide +kernel)
set_option maxRecDepth 20000 in
theorem gL_law_X4_keep : GoodIn wsL_law (wsV RL 97 RX4 yX4_keep wsX4_keep) := goodIn_app (goodIn_of _ (by decide +kernel)) ggL_law_X4_keep
set_option maxRecDepth 20000 in
theorem ggL_law_X5_keep : GoodIn wsL_law wsX5_keep := goodIn_r _ [855, 107, 106, 108, 130, 131, 5, 132, 891, 892, 893, 894, 895, 896, 897, 898, 899, 900, 901, 902, 903, 904, 905, 906, 907, 908, 909, 910, 911, 912, 913, 914, 915, 916, 917, 918, 919, 920, 921, 922, 923, 924, 925, 926, 927, 928, 929, 930, 931] (by decide +kernel) (by decide +kernel)
set_option maxRecDepth 20000 in
theorem gL_law_X5_keep : GoodIn wsL_law (wsV RL 100 RX5 yX5_keep wsX5_keep) := goodIn_app (goodIn_of _ (by decide +kernel)) ggL_law_X5_keep
