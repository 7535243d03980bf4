/-! THE LAW: the words of its calls. -/
set_option maxRecDepth 20000 in
theorem ggL_law_X4_now : GoodIn wsL_law wsX4_now := goodIn_r _ [415, 18, 27, 416, 417, 418, 382, 419, 420, 421, 422, 17, 423, 48, 51, 50, 880, 881, 882, 883, 884, 885, 886, 887, 888, 889, 890, 950, 951, 952, 953, 954, 955, 956, 957, 932, 933, 934, 935, 936, 937, 938, 939, 940, 941, 942, 943] (by decide +kernel) (by decide +kernel)
set_option maxRecDepth 20000 in
theorem gL_law_X4_now : GoodIn wsL_law (wsV RL 38 RX4 yX4_now wsX4_now) := goodIn_app (goodIn_of _ (by decide +kernel)) ggL_law_X4_now
set_option maxRecDepth 20000 in
theorem ggL_law_X5_now : GoodIn wsL_law wsX5_now := goodIn_r _ [427, 106, 102, 103, 428, 429, 430, 5, 431, 294, 101, 891, 892, 893, 894, 895, 896, 897, 898, 899, 900, 901, 902, 903, 904, 905, 906, 907, 908, 909, 910, 911, 912, 913, 914, 915, 916, 917, 918, 919, 920, 921, 922, 923, 924, 925, 926, 927, 928, 929, 930, 931] (by decide +kernel) (by decide +kernel)
set_option maxRecDepth 20000 in
theorem gL_law_X5_now : GoodIn wsL_law (wsV RL 42 RX5 yX5_now wsX5_now) := goodIn_app (goodIn_of _ (by decide +kernel)) ggL_law_X5_now
set_option maxRecDepth 20000 in
theorem ggL_law_X4_minutes : GoodIn wsL_law wsX4_minutes := goodIn_r _ [435, 27, 416, 18, 436, 437, 438, 26, 439, 77, 80, 78, 63, 81, 392, 354, 355, 356, 88, 2, 89, 440, 441, 442, 443, 444, 358, 359, 17, 360, 53, 42, 445, 421, 422, 423, 48, 51, 50, 446, 447, 448, 449, 450, 451, 452, 453, 454, 455, 456, 457, 458, 459, 460, 461, 79, 394, 395, 462, 463, 464, 465, 466, 467, 153, 468, 469, 470, 471, 472, 473, 362, 363, 364, 43, 94, 95, 474, 475, 476, 477, 64, 478, 366, 367, 368, 880, 881, 882, 883, 884, 885, 886, 887, 888, 889, 890, 950, 951, 952, 953, 954, 955, 956, 957, 932, 933, 934, 935, 936, 937, 938, 939, 940, 941, 942, 943] (by decide +kernel) (by decide +kernel)
set_option maxRecDepth 20000 in
theorem gL_law_X4_minutes : GoodIn wsL_law (wsV RL 43 RX4 yX4_minutes wsX4_minutes) := goodIn_app (goodIn_of _ (by decide +kernel)) ggL_law_X4_minutes
set_option maxRecDepth 20000 in
theorem ggL_law_X5_minutes : GoodIn wsL_law wsX5_minutes := goodIn_r _ [482, 106, 130, 131, 5, 132, 483, 484, 485, 486, 487, 293, 113, 114, 488, 489, 490, 491, 492, 493, 404, 405, 406, 407, 101, 100, 494, 495, 496, 497, 498, 499, 500, 105, 428, 429, 430, 431, 294, 102, 501, 502, 503, 504, 104, 505, 506, 507, 508, 509, 510, 511, 512, 513, 514, 515, 516, 517, 518, 519, 103, 520, 521, 522, 523, 524, 525, 526, 527, 528, 529, 530, 891, 892, 893, 894, 895, 896, 897, 898, 899, 900, 901, 902, 903, 904, 905, 906, 907, 908, 909, 910, 911, 912, 913, 914, 915, 916, 917, 918, 919, 920, 921, 922, 923, 924, 925, 926, 927, 928, 929, 930, 931] (by decide +kernel) (by decide +kernel)
set_option maxRecDepth 20000 in
theorem gL_law_X5_minutes : GoodIn wsL_law (wsV RL 46 RX5 yX5_minutes wsX5_minutes) := goodIn_app (goodIn_of _ (by decide +kernel)) ggL_law_X5_minutes
set_option maxRecDepth 20000 in
theorem ggL_law_X4_drop : GoodIn wsL_law wsX4_drop := goodIn_r _ [534, 18, 27, 381, 535, 383, 384, 385, 17, 386, 387, 266, 267, 268, 48, 49, 393, 394, 2, 395, 536, 537, 538, 539, 540, 541, 542, 880, 881, 882, 883, 884, 885, 886, 887, 888, 889, 890, 950, 951, 952, 953, 954, 955, 956, 957, 932, 933, 934, 935, 936, 937, 938, 939, 940, 941, 942, 943] (by decide +kernel) (by decide +kernel)
set_option maxRecDepth 20000 in
theorem gL_law_X4_drop : GoodIn wsL_law (wsV RL 47 RX4 yX4_drop wsX4_drop) := goodIn_app (goodIn_of _ (by decide +kernel)) ggL_law_X4_drop
set_option maxRecDepth 20000 in
theorem ggL_law_X5_drop : GoodIn wsL_law wsX5_drop := goodIn_r _ [546, 106, 400, 401, 402, 5, 403, 404, 405, 406, 407, 101, 100, 130, 131, 132, 494, 495, 496, 408, 409, 410, 411, 293, 547, 548, 549, 550, 891, 892, 893, 894, 895, 896, 897, 898, 899, 900, 901, 902, 903, 904, 905, 906, 907, 908, 909, 910, 911, 912, 913, 914, 915, 916, 917, 918, 919, 920, 921, 922, 923, 924, 925, 926, 927, 928, 929, 930, 931] (by decide +kernel) (by decide +kernel)
set_option maxRecDepth 20000 in
theorem gL_law_X5_drop : GoodIn wsL_law (wsV RL 50 RX5 yX5_drop wsX5_drop) := goodIn_app (goodIn_of _ (by decide +kernel)) ggL_law_X5_drop
