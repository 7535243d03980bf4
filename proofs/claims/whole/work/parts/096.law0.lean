/-! THE LAW: its words stand in the tables. -/
theorem in_places {big : List Cond} (ws : List Cond) (ps : List Nat) (hp : ws = ps.filterMap (fun i => big[i]?)) : ∀ w ∈ ws, w ∈ big := by
  intro w hw
  rw [hp] at hw
  obtain ⟨i, -, hi⟩ := List.mem_filterMap.mp hw
  first | exact List.mem_of_getElem? hi | exact List.getElem?_mem hi
theorem in_app {big a b : List Cond} (ha : ∀ w ∈ a, w ∈ big) (hb : ∀ w ∈ b, w ∈ big) : ∀ w ∈ a ++ b, w ∈ big := fun w h => (List.mem_append.mp h).elim (ha w) (hb w)
set_option maxRecDepth 20000 in
theorem pl_wsL_law_r1 : ∀ w ∈ wsL_law_r1, w ∈ lw_tbl := in_places wsL_law_r1 [83, 84, 70, 741, 742, 75, 1143, 85, 86, 87, 88, 89, 90, 156, 260, 91, 92, 71, 262, 263, 158, 159, 72, 264] (by decide +kernel)
set_option maxRecDepth 20000 in
theorem pl_wsL_law_r2 : ∀ w ∈ wsL_law_r2, w ∈ lw_tbl := in_places wsL_law_r2 [183, 184, 73, 265, 266, 267, 240, 268, 221, 222, 74, 269, 93, 94, 95, 96, 157, 128, 129, 130, 97, 98, 99, 100] (by decide +kernel)
set_option maxRecDepth 20000 in
theorem pl_wsL_law_r3 : ∀ w ∈ wsL_law_r3, w ∈ lw_tbl := in_places wsL_law_r3 [101, 105, 109, 111, 114, 118, 122, 124, 126, 161, 162, 163, 186, 187, 188, 189, 190, 224, 225, 226, 227, 228, 241, 229] (by decide +kernel)
set_option maxRecDepth 20000 in
theorem pl_wsL_law_r4 : ∀ w ∈ wsL_law_r4, w ∈ lw_tbl := in_places wsL_law_r4 [230, 242, 243, 244, 245, 191, 192, 195, 197, 199, 201, 119, 246, 247, 248, 249, 251, 252, 253, 254, 255, 256, 258, 259] (by decide +kernel)
set_option maxRecDepth 20000 in
theorem pl_wsL_law_r5 : ∀ w ∈ wsL_law_r5, w ∈ lw_tbl := in_places wsL_law_r5 [743, 744, 745, 746, 747, 748, 751, 752, 753, 754, 755, 756, 757, 759, 775, 776, 777, 778, 779, 783, 784, 785, 786, 294] (by decide +kernel)
set_option maxRecDepth 20000 in
theorem pl_wsL_law_r6 : ∀ w ∈ wsL_law_r6, w ∈ lw_tbl := in_places wsL_law_r6 [295, 296, 297, 261, 871, 872, 873, 874, 760, 878, 875, 876, 877, 298, 299, 300, 301, 879, 880, 881, 882, 302, 303, 304] (by decide +kernel)
set_option maxRecDepth 20000 in
theorem pl_wsL_law_r7 : ∀ w ∈ wsL_law_r7, w ∈ lw_tbl := in_places wsL_law_r7 [305, 306, 307, 308, 309, 310, 164, 311, 312, 76, 313, 165, 168, 169, 166, 314, 316, 0, 317, 167, 318, 320, 1, 321] (by decide +kernel)
set_option maxRecDepth 20000 in
theorem pl_wsL_law_r8 : ∀ w ∈ wsL_law_r8, w ∈ lw_tbl := in_places wsL_law_r8 [322, 323, 324, 325, 327, 2, 328, 123, 103, 106, 125, 110, 112, 127, 115, 329, 331, 3, 332, 334, 336, 4, 337, 338] (by decide +kernel)
set_option maxRecDepth 20000 in
theorem pl_wsL_law_r9 : ∀ w ∈ wsL_law_r9, w ∈ lw_tbl := in_places wsL_law_r9 [339, 340, 77, 341, 1144, 342, 343, 344, 345, 346, 1145, 348, 349, 350, 351, 352, 353, 354, 355, 356, 357, 78, 358, 359] (by decide +kernel)
set_option maxRecDepth 20000 in
theorem pl_wsL_law_r10 : ∀ w ∈ wsL_law_r10, w ∈ lw_tbl := in_places wsL_law_r10 [360, 361, 362, 364, 365, 79, 366, 367, 368, 80, 369, 370, 371, 372, 373, 374, 375, 376, 377, 378, 379, 380, 382, 384] (by decide +kernel)
set_option maxRecDepth 20000 in
theorem pl_wsL_law_r11 : ∀ w ∈ wsL_law_r11, w ∈ lw_tbl := in_places wsL_law_r11 [392, 393, 394, 120, 395, 397, 5, 398, 399, 401, 6, 402, 403, 405, 7, 406, 407, 409, 8, 410, 411, 412, 413, 414] (by decide +kernel)
set_option maxRecDepth 20000 in
theorem pl_wsL_law_r12 : ∀ w ∈ wsL_law_r12, w ∈ lw_tbl := in_places wsL_law_r12 [415, 416, 417, 418, 419, 420, 421, 422, 423, 425, 427, 9, 428, 883, 884, 885, 886, 761, 766, 767, 768, 769, 770, 771] (by decide +kernel)
set_option maxRecDepth 20000 in
theorem pl_wsL_law_r13 : ∀ w ∈ wsL_law_r13, w ∈ lw_tbl := in_places wsL_law_r13 [772, 773, 774, 763, 762, 749, 750, 887, 889, 33, 890, 765, 764, 891, 893, 34, 894, 895, 897, 35, 898, 899, 912, 917] (by decide +kernel)
set_option maxRecDepth 20000 in
theorem pl_wsL_law_r14 : ∀ w ∈ wsL_law_r14, w ∈ lw_tbl := in_places wsL_law_r14 [922, 923, 924, 925, 900, 902, 36, 903, 904, 906, 37, 907, 908, 910, 38, 911, 913, 915, 39, 916, 918, 920, 40, 921] (by decide +kernel)
set_option maxRecDepth 20000 in
theorem pl_wsL_law_r15 : ∀ w ∈ wsL_law_r15, w ∈ lw_tbl := in_places wsL_law_r15 [926, 928, 41, 929, 930, 932, 42, 933, 429, 430, 431, 432, 433, 435, 10, 436, 121, 437, 438, 439, 440, 442, 443, 444] (by decide +kernel)
set_option maxRecDepth 20000 in
theorem pl_wsL_law_r16 : ∀ w ∈ wsL_law_r16, w ∈ lw_tbl := in_places wsL_law_r16 [445, 446, 447, 448, 449, 450, 451, 452, 453, 934, 935, 936, 937, 938, 940, 43, 941, 454, 455, 456, 457, 196, 198, 458] (by decide +kernel)
set_option maxRecDepth 20000 in
theorem pl_wsL_law_r17 : ∀ w ∈ wsL_law_r17, w ∈ lw_tbl := in_places wsL_law_r17 [459, 460, 461, 462, 463, 464, 465, 466, 467, 468, 469, 470, 942, 943, 944, 945, 946, 948, 44, 949, 950, 952, 45, 953] (by decide +kernel)
set_option maxRecDepth 20000 in
theorem pl_wsL_law_r18 : ∀ w ∈ wsL_law_r18, w ∈ lw_tbl := in_places wsL_law_r18 [954, 956, 46, 957, 471, 472, 473, 474, 200, 113, 116, 202, 475, 476, 477, 478, 958, 959, 960, 961, 962, 964, 47, 965] (by decide +kernel)
set_option maxRecDepth 20000 in
theorem pl_wsL_law_r19 : ∀ w ∈ wsL_law_r19, w ∈ lw_tbl := in_places wsL_law_r19 [479, 480, 481, 482, 483, 484, 485, 486, 487, 489, 11, 490, 491, 492, 493, 494, 495, 496, 497, 498, 499, 500, 501, 502] (by decide +kernel)
set_option maxRecDepth 20000 in
theorem pl_wsL_law_r20 : ∀ w ∈ wsL_law_r20, w ∈ lw_tbl := in_places wsL_law_r20 [503, 504, 506, 12, 507, 117, 509, 510, 511, 512, 513, 514, 515, 516, 517, 518, 519, 520, 521, 523, 13, 524, 525, 966] (by decide +kernel)
set_option maxRecDepth 20000 in
theorem pl_wsL_law_r21 : ∀ w ∈ wsL_law_r21, w ∈ lw_tbl := in_places wsL_law_r21 [967, 968, 969, 970, 972, 48, 973, 782, 781, 974, 976, 49, 977, 780, 978, 979, 980, 981, 983, 50, 984, 985, 987, 51] (by decide +kernel)
set_option maxRecDepth 20000 in
theorem pl_wsL_law_r22 : ∀ w ∈ wsL_law_r22, w ∈ lw_tbl := in_places wsL_law_r22 [988, 989, 990, 991, 992, 994, 52, 995, 996, 998, 53, 999, 1000, 1002, 54, 1003, 1004, 1006, 55, 1007, 1008, 1009, 1010, 1011] (by decide +kernel)
set_option maxRecDepth 20000 in
theorem pl_wsL_law_r23 : ∀ w ∈ wsL_law_r23, w ∈ lw_tbl := in_places wsL_law_r23 [1013, 56, 1014, 526, 527, 528, 529, 194, 530, 531, 81, 532, 533, 534, 535, 1015, 1016, 1017, 1018, 1019, 1021, 57, 1022, 536] (by decide +kernel)
set_option maxRecDepth 20000 in
theorem pl_wsL_law_r24 : ∀ w ∈ wsL_law_r24, w ∈ lw_tbl := in_places wsL_law_r24 [537, 538, 539, 108, 104, 1023, 1024, 1025, 1026, 540, 541, 542, 543, 544, 545, 546, 547, 1027, 1028, 1029, 1030, 1031, 1033, 58] (by decide +kernel)
set_option maxRecDepth 20000 in
theorem pl_wsL_law_r25 : ∀ w ∈ wsL_law_r25, w ∈ lw_tbl := in_places wsL_law_r25 [1034, 548, 549, 550, 551, 552, 554, 14, 555, 556, 557, 558, 559, 560, 561, 562, 563, 1035, 1036, 1037, 1038, 564, 565, 566] (by decide +kernel)
set_option maxRecDepth 20000 in
theorem pl_wsL_law_r26 : ∀ w ∈ wsL_law_r26, w ∈ lw_tbl := in_places wsL_law_r26 [567, 568, 570, 15, 571, 572, 573, 574, 102, 193, 575, 576, 577, 578, 579, 580, 581, 582, 583, 584, 585, 586, 587, 588] (by decide +kernel)
set_option maxRecDepth 20000 in
theorem pl_wsL_law_r27 : ∀ w ∈ wsL_law_r27, w ∈ lw_tbl := in_places wsL_law_r27 [1039, 1040, 1041, 1042, 1043, 1045, 59, 1046, 1047, 1049, 60, 1050, 1051, 1053, 61, 1054, 1055, 1057, 62, 1058, 1059, 1060, 1061, 589] (by decide +kernel)
set_option maxRecDepth 20000 in
theorem pl_wsL_law_r28 : ∀ w ∈ wsL_law_r28, w ∈ lw_tbl := in_places wsL_law_r28 [590, 591, 592, 593, 594, 595, 596, 597, 599, 16, 600, 603, 605, 17, 606, 107, 607, 609, 18, 610, 612, 614, 19, 615] (by decide +kernel)
set_option maxRecDepth 20000 in
theorem pl_wsL_law_r29 : ∀ w ∈ wsL_law_r29, w ∈ lw_tbl := in_places wsL_law_r29 [616, 1062, 1063, 1064, 1065, 617, 618, 619, 620, 621, 622, 623, 624, 625, 626, 627, 82, 628, 629, 631, 20, 632, 633, 634] (by decide +kernel)
set_option maxRecDepth 20000 in
theorem pl_wsL_law_r30 : ∀ w ∈ wsL_law_r30, w ∈ lw_tbl := in_places wsL_law_r30 [635, 637, 21, 638, 639, 640, 642, 22, 643, 645, 646, 648, 649, 1066, 1067, 1068, 1069, 1081, 1070, 1072, 63, 1073, 1074, 1076] (by decide +kernel)
set_option maxRecDepth 20000 in
theorem pl_wsL_law_r31 : ∀ w ∈ wsL_law_r31, w ∈ lw_tbl := in_places wsL_law_r31 [64, 1077, 1078, 1079, 1080, 650, 651, 652, 653, 654, 655, 657, 23, 658, 659, 660, 661, 1082, 1083, 1084, 1085, 787, 1086, 1088] (by decide +kernel)
set_option maxRecDepth 20000 in
theorem pl_wsL_law_r32 : ∀ w ∈ wsL_law_r32, w ∈ lw_tbl := in_places wsL_law_r32 [65, 1089, 662, 663, 664, 665, 666, 668, 24, 669, 670, 672, 25, 673, 1090, 1091, 1092, 1093, 674, 675, 676, 677, 678, 679] (by decide +kernel)
set_option maxRecDepth 20000 in
theorem pl_wsL_law_r33 : ∀ w ∈ wsL_law_r33, w ∈ lw_tbl := in_places wsL_law_r33 [680, 1094, 1095, 1096, 1097, 1098, 1099, 1100, 681, 682, 683, 684, 685, 1101, 1102, 1103, 1104, 686, 687, 688, 689, 690, 691, 693] (by decide +kernel)
set_option maxRecDepth 20000 in
theorem pl_wsL_law_r34 : ∀ w ∈ wsL_law_r34, w ∈ lw_tbl := in_places wsL_law_r34 [26, 694, 270, 695, 697, 27, 698, 699, 700, 702, 28, 703, 704, 705, 707, 29, 708, 709, 710, 712, 30, 713, 714, 715] (by decide +kernel)
set_option maxRecDepth 20000 in
theorem pl_wsL_law_r35 : ∀ w ∈ wsL_law_r35, w ∈ lw_tbl := in_places wsL_law_r35 [717, 31, 718, 719, 1105, 1106, 1107, 1108, 1109, 758, 1124, 1125, 1126, 1110, 1112, 66, 1113, 1114, 1116, 67, 1117, 1118, 1119, 1121] (by decide +kernel)
set_option maxRecDepth 20000 in
theorem pl_wsL_law_r36 : ∀ w ∈ wsL_law_r36, w ∈ lw_tbl := in_places wsL_law_r36 [68, 1122, 1123, 720, 721, 722, 723, 724, 726, 32, 727, 728, 1127, 1128, 1129, 1130, 729, 730, 731, 732, 1131, 1132, 1133, 1134] (by decide +kernel)
set_option maxRecDepth 20000 in
theorem pl_wsL_law_r37 : ∀ w ∈ wsL_law_r37, w ∈ lw_tbl := in_places wsL_law_r37 [733, 734, 735, 736, 1135, 1136, 1137, 1138, 737, 738, 739, 740, 1139, 1140, 1141, 1142] (by decide +kernel)
set_option maxRecDepth 20000 in
theorem pl_wsX40 : ∀ w ∈ wsX40, w ∈ lw_tbl := in_places wsX40 [271, 273, 275, 277, 279, 281, 283, 285, 287, 289, 291] (by decide +kernel)
set_option maxRecDepth 20000 in
theorem pl_wsX50 : ∀ w ∈ wsX50, w ∈ lw_tbl := in_places wsX50 [788, 790, 792, 794, 796, 798, 800, 802, 804, 806, 808, 810, 812, 814, 816, 818, 820, 822, 824, 826, 828, 830, 832, 834, 836, 838, 840, 842, 844, 846, 848, 850, 852, 854, 856, 858, 860, 862, 864, 866, 868] (by decide +kernel)
set_option maxRecDepth 20000 in
theorem pl_wsX00 : ∀ w ∈ wsX00, w ∈ lw_tbl := in_places wsX00 [131, 133, 135, 137, 139, 141, 143, 145, 147, 149, 151, 153] (by decide +kernel)
set_option maxRecDepth 20000 in
theorem pl_wsX10 : ∀ w ∈ wsX10, w ∈ lw_tbl := in_places wsX10 [170, 172, 174, 176, 178, 180] (by decide +kernel)
set_option maxRecDepth 20000 in
theorem pl_wsX20 : ∀ w ∈ wsX20, w ∈ lw_tbl := in_places wsX20 [203, 205, 207, 209, 211, 213, 215, 217] (by decide +kernel)
set_option maxRecDepth 20000 in
theorem pl_wsX30 : ∀ w ∈ wsX30, w ∈ lw_tbl := in_places wsX30 [231, 233, 235, 237] (by decide +kernel)
theorem wsL_law_in : ∀ w ∈ wsL_law, w ∈ lw_tbl := in_app (in_app (in_app (in_app (in_app (in_app (in_app (in_app pl_wsL_law_r1 (in_app pl_wsL_law_r2 (in_app pl_wsL_law_r3 (in_app pl_wsL_law_r4 (in_app pl_wsL_law_r5 (in_app pl_wsL_law_r6 (in_app pl_wsL_law_r7 (in_app pl_wsL_law_r8 (in_app pl_wsL_law_r9 (in_app pl_wsL_law_r10 (in_app pl_wsL_law_r11 (in_app pl_wsL_law_r12 (in_app pl_wsL_law_r13 (in_app pl_wsL_law_r14 (in_app pl_wsL_law_r15 (in_app pl_wsL_law_r16 (in_app pl_wsL_law_r17 (in_app pl_wsL_law_r18 (in_app pl_wsL_law_r19 (in_app pl_wsL_law_r20 (in_app pl_wsL_law_r21 (in_app pl_wsL_law_r22 (in_app pl_wsL_law_r23 (in_app pl_wsL_law_r24 (in_app pl_wsL_law_r25 (in_app pl_wsL_law_r26 (in_app pl_wsL_law_r27 (in_app pl_wsL_law_r28 (in_app pl_wsL_law_r29 (in_app pl_wsL_law_r30 (in_app pl_wsL_law_r31 (in_app pl_wsL_law_r32 (in_app pl_wsL_law_r33 (in_app pl_wsL_law_r34 (in_app pl_wsL_law_r35 (in_app pl_wsL_law_r36 pl_wsL_law_r37)))))))))))))))))))))))))))))))))))) pl_wsX40) pl_wsX50) pl_wsX00) pl_wsX10) pl_wsX20) pl_wsX30) (fun w h => absurd h List.not_mem_nil)
