/-! THE LAW: the words of its calls. -/
set_option maxRecDepth 20000 in
theorem ggL_law_X4_bridge : GoodIn wsL_law wsX4_bridge := goodIn_r _ [144, 19, 23, 14, 123, 18, 27, 31, 145, 45, 46, 17, 47, 48, 49, 50, 51, 52, 53, 54, 55, 56, 146, 147, 148, 22, 149, 150, 151, 152, 153, 154, 155, 156, 157, 158, 159, 160, 161, 162, 163, 164, 165, 166, 167, 168, 169, 170, 171, 172, 173, 174, 175, 176, 177, 178, 179, 180, 181, 182, 183, 184, 185, 186, 187, 188, 189, 190, 191, 192, 193, 194, 195, 196, 197, 198, 199, 200, 201, 202, 203, 204, 205, 206, 207, 208, 209, 210, 211, 212, 213, 214, 215, 216, 217, 218, 219, 220, 221, 222, 223, 224, 225, 226, 227, 228, 229, 230, 231, 232, 233, 234, 235, 236, 237, 238, 239, 240, 241, 242, 243, 244, 245, 246, 247, 248, 249, 250, 251, 252, 253, 254, 255, 256, 257, 258, 259, 260, 261, 262, 263, 264, 85, 86, 87, 41, 88, 2, 89, 265, 266, 267, 268, 269, 270, 271, 272, 42, 43, 94, 95, 273, 274, 275, 276, 73, 74, 75, 26, 76, 77, 78, 79, 80, 81, 82, 83, 84, 90, 91, 92, 93, 63, 64, 880, 881, 882, 883, 884, 885, 886, 887, 888, 889, 890, 932, 933, 934, 935, 936, 937, 938, 939, 940, 941, 942, 943, 944, 945, 946, 947, 948, 949, 950, 951, 952, 953, 954, 955, 956, 957] (by decide +kernel) (by decide +kernel)
set_option maxRecDepth 20000 in
theorem gL_law_X4_bridge : GoodIn wsL_law (wsV RL 25 RX4 yX4_bridge wsX4_bridge) := goodIn_app (goodIn_of _ (by decide +kernel)) ggL_law_X4_bridge
set_option maxRecDepth 20000 in
theorem ggL_law_X5_bridge : GoodIn wsL_law wsX5_bridge := goodIn_r _ [280, 281, 282, 283, 284, 285, 286, 287, 288, 289, 290, 291, 292, 101, 100, 293, 294, 102, 103, 106, 104, 110, 105, 111, 112, 108, 128, 295, 296, 297, 5, 298, 299, 300, 301, 302, 303, 304, 109, 130, 131, 132, 305, 306, 307, 308, 309, 310, 311, 312, 313, 314, 315, 316, 317, 318, 319, 320, 321, 322, 323, 324, 325, 326, 327, 328, 329, 330, 331, 332, 333, 334, 335, 336, 337, 338, 339, 340, 341, 342, 343, 891, 892, 893, 894, 895, 896, 897, 898, 899, 900, 901, 902, 903, 904, 905, 906, 907, 908, 909, 910, 911, 912, 913, 914, 915, 916, 917, 918, 919, 920, 921, 922, 923, 924, 925, 926, 927, 928, 929, 930, 931] (by decide +kernel) (by decide +kernel)
set_option maxRecDepth 20000 in
theorem gL_law_X5_bridge : GoodIn wsL_law (wsV RL 28 RX5 yX5_bridge wsX5_bridge) := goodIn_app (goodIn_of _ (by decide +kernel)) ggL_law_X5_bridge
set_option maxRecDepth 20000 in
theorem ggL_law_X4_cat : GoodIn wsL_law wsX4_cat := goodIn_r _ [347, 27, 18, 348, 349, 350, 2, 351, 352, 353, 354, 355, 26, 356, 63, 88, 89, 357, 358, 359, 17, 360, 53, 42, 361, 362, 363, 364, 43, 365, 366, 367, 368, 64, 880, 881, 882, 883, 884, 885, 886, 887, 888, 889, 890, 932, 933, 934, 935, 936, 937, 938, 939, 940, 941, 942, 943, 950, 951, 952, 953, 954, 955, 956, 957] (by decide +kernel) (by decide +kernel)
set_option maxRecDepth 20000 in
theorem gL_law_X4_cat : GoodIn wsL_law (wsV RL 29 RX4 yX4_cat wsX4_cat) := goodIn_app (goodIn_of _ (by decide +kernel)) ggL_law_X4_cat
set_option maxRecDepth 20000 in
theorem ggL_law_X5_cat : GoodIn wsL_law wsX5_cat := goodIn_r _ [372, 106, 104, 105, 373, 374, 375, 5, 376, 293, 130, 131, 132, 891, 892, 893, 894, 895, 896, 897, 898, 899, 900, 901, 902, 903, 904, 905, 906, 907, 908, 909, 910, 911, 912, 913, 914, 915, 916, 917, 918, 919, 920, 921, 922, 923, 924, 925, 926, 927, 928, 929, 930, 931] (by decide +kernel) (by decide +kernel)
set_option maxRecDepth 20000 in
theorem gL_law_X5_cat : GoodIn wsL_law (wsV RL 33 RX5 yX5_cat wsX5_cat) := goodIn_app (goodIn_of _ (by decide +kernel)) ggL_law_X5_cat
set_option maxRecDepth 20000 in
theorem ggL_law_X4_cell : GoodIn wsL_law wsX4_cell := goodIn_r _ [380, 18, 27, 381, 382, 383, 384, 385, 17, 386, 387, 266, 267, 268, 48, 49, 388, 389, 390, 26, 391, 77, 392, 354, 355, 356, 63, 88, 2, 89, 393, 394, 395, 880, 881, 882, 883, 884, 885, 886, 887, 888, 889, 890, 950, 951, 952, 953, 954, 955, 956, 957, 932, 933, 934, 935, 936, 937, 938, 939, 940, 941, 942, 943] (by decide +kernel) (by decide +kernel)
set_option maxRecDepth 20000 in
theorem gL_law_X4_cell : GoodIn wsL_law (wsV RL 34 RX4 yX4_cell wsX4_cell) := goodIn_app (goodIn_of _ (by decide +kernel)) ggL_law_X4_cell
set_option maxRecDepth 20000 in
theorem ggL_law_X5_cell : GoodIn wsL_law wsX5_cell := goodIn_r _ [399, 106, 400, 401, 402, 5, 403, 404, 405, 406, 407, 101, 100, 130, 131, 132, 408, 409, 410, 411, 293, 891, 892, 893, 894, 895, 896, 897, 898, 899, 900, 901, 902, 903, 904, 905, 906, 907, 908, 909, 910, 911, 912, 913, 914, 915, 916, 917, 918, 919, 920, 921, 922, 923, 924, 925, 926, 927, 928, 929, 930, 931] (by decide +kernel) (by decide +kernel)
set_option maxRecDepth 20000 in
theorem gL_law_X5_cell : GoodIn wsL_law (wsV RL 37 RX5 yX5_cell wsX5_cell) := goodIn_app (goodIn_of _ (by decide +kernel)) ggL_law_X5_cell
