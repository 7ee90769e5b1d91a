set_option maxRecDepth 100000 in
theorem lwi_1 : ∀ w ∈ wsL_law0_r1, w ∈ lw_tbl := fun w h => (goodIn_r (big := lw_tbl) wsL_law0_r1 [56, 57, 36, 806, 807, 49, 1099, 589, 590, 35, 591, 58, 59, 60, 61, 62, 63, 64, 65, 37, 302, 303, 304, 81] rfl (by decide +kernel) w h).1
set_option maxRecDepth 100000 in
theorem lwi_2 : ∀ w ∈ wsL_law0_r2, w ∈ lw_tbl := fun w h => (goodIn_r (big := lw_tbl) wsL_law0_r2 [82, 40, 305, 102, 103, 41, 306, 123, 124, 42, 307, 134, 135, 43, 298, 184, 185, 44, 299, 209, 210, 45, 300, 301] rfl (by decide +kernel) w h).1
set_option maxRecDepth 100000 in
theorem lwi_3 : ∀ w ∈ wsL_law0_r3, w ∈ lw_tbl := fun w h => (goodIn_r (big := lw_tbl) wsL_law0_r3 [66, 67, 68, 69, 70, 71, 38, 72, 80, 73, 83, 84, 85, 90, 87, 39, 88, 89, 104, 105, 106, 108, 125, 126] rfl (by decide +kernel) w h).1
set_option maxRecDepth 100000 in
theorem lwi_4 : ∀ w ∈ wsL_law0_r4, w ∈ lw_tbl := fun w h => (goodIn_r (big := lw_tbl) wsL_law0_r4 [127, 128, 129, 130, 136, 137, 138, 139, 140, 141, 142, 146, 150, 153, 156, 159, 162, 143, 165, 144, 166, 145, 186, 187] rfl (by decide +kernel) w h).1
set_option maxRecDepth 100000 in
theorem lwi_5 : ∀ w ∈ wsL_law0_r5, w ∈ lw_tbl := fun w h => (goodIn_r (big := lw_tbl) wsL_law0_r5 [188, 189, 190, 211, 212, 213, 214, 215, 216, 46, 280, 284, 230, 285, 232, 233, 47, 154, 157, 282, 256, 286, 218, 219] rfl (by decide +kernel) w h).1
set_option maxRecDepth 100000 in
theorem lwi_6 : ∀ w ∈ wsL_law0_r6, w ∈ lw_tbl := fun w h => (goodIn_r (big := lw_tbl) wsL_law0_r6 [220, 221, 223, 224, 222, 231, 234, 235, 236, 237, 246, 238, 240, 242, 244, 239, 257, 258, 259, 260, 261, 262, 263, 264] rfl (by decide +kernel) w h).1
set_option maxRecDepth 100000 in
theorem lwi_7 : ∀ w ∈ wsL_law0_r7, w ∈ lw_tbl := fun w h => (goodIn_r (big := lw_tbl) wsL_law0_r7 [265, 266, 267, 268, 269, 270, 271, 48, 272, 273, 274, 275, 276, 277, 278, 279, 808, 809, 810, 811, 835, 836, 837, 838] rfl (by decide +kernel) w h).1
set_option maxRecDepth 100000 in
theorem lwi_8 : ∀ w ∈ wsL_law0_r8, w ∈ lw_tbl := fun w h => (goodIn_r (big := lw_tbl) wsL_law0_r8 [839, 840, 841, 842, 843, 844, 845, 925, 846, 847, 849, 851, 829, 830, 831, 832, 833, 834, 812, 813, 814, 815, 817, 11] rfl (by decide +kernel) w h).1
set_option maxRecDepth 100000 in
theorem lwi_9 : ∀ w ∈ wsL_law0_r9, w ∈ lw_tbl := fun w h => (goodIn_r (big := lw_tbl) wsL_law0_r9 [818, 850, 852, 819, 821, 12, 822, 823, 824, 826, 13, 827, 592, 593, 594, 595, 596, 597, 598, 599, 600, 609, 53, 677] rfl (by decide +kernel) w h).1
set_option maxRecDepth 100000 in
theorem lwi_10 : ∀ w ∈ wsL_law0_r10, w ∈ lw_tbl := fun w h => (goodIn_r (big := lw_tbl) wsL_law0_r10 [54, 160, 601, 602, 603, 604, 605, 606, 607, 608, 333, 334, 335, 336, 337, 338, 339, 340, 341, 342, 343, 344, 345, 346] rfl (by decide +kernel) w h).1
set_option maxRecDepth 100000 in
theorem lwi_11 : ∀ w ∈ wsL_law0_r11, w ∈ lw_tbl := fun w h => (goodIn_r (big := lw_tbl) wsL_law0_r11 [347, 348, 934, 935, 936, 937, 828, 938, 940, 14, 941, 942, 943, 944, 945, 946, 947, 926, 927, 928, 929, 329, 330, 331] rfl (by decide +kernel) w h).1
set_option maxRecDepth 100000 in
theorem lwi_12 : ∀ w ∈ wsL_law0_r12, w ∈ lw_tbl := fun w h => (goodIn_r (big := lw_tbl) wsL_law0_r12 [332, 151, 148, 158, 948, 949, 950, 951, 693, 694, 695, 696, 697, 698, 699, 529, 952, 953, 954, 955, 700, 701, 702, 703] rfl (by decide +kernel) w h).1
set_option maxRecDepth 100000 in
theorem lwi_13 : ∀ w ∈ wsL_law0_r13, w ∈ lw_tbl := fun w h => (goodIn_r (big := lw_tbl) wsL_law0_r13 [704, 705, 706, 708, 390, 391, 392, 147, 163, 191, 192, 193, 194, 195, 393, 709, 399, 400, 401, 402, 403, 404, 405, 956] rfl (by decide +kernel) w h).1
set_option maxRecDepth 100000 in
theorem lwi_14 : ∀ w ∈ wsL_law0_r14, w ∈ lw_tbl := fun w h => (goodIn_r (big := lw_tbl) wsL_law0_r14 [957, 958, 959, 960, 962, 15, 963, 964, 966, 16, 967, 968, 969, 970, 349, 350, 351, 352, 353, 354, 355, 356, 74, 357] rfl (by decide +kernel) w h).1
set_option maxRecDepth 100000 in
theorem lwi_15 : ∀ w ∈ wsL_law0_r15, w ∈ lw_tbl := fun w h => (goodIn_r (big := lw_tbl) wsL_law0_r15 [358, 359, 360, 361, 362, 363, 364, 365, 366, 367, 369, 370, 371, 91, 372, 94, 373, 374, 375, 376, 377, 378, 379, 380] rfl (by decide +kernel) w h).1
set_option maxRecDepth 100000 in
theorem lwi_16 : ∀ w ∈ wsL_law0_r16, w ∈ lw_tbl := fun w h => (goodIn_r (big := lw_tbl) wsL_law0_r16 [381, 382, 383, 384, 152, 149, 385, 387, 0, 388, 161, 485, 426, 427, 389, 394, 395, 396, 397, 398, 407, 408, 409, 410] rfl (by decide +kernel) w h).1
set_option maxRecDepth 100000 in
theorem lwi_17 : ∀ w ∈ wsL_law0_r17, w ∈ lw_tbl := fun w h => (goodIn_r (big := lw_tbl) wsL_law0_r17 [412, 1, 413, 164, 414, 416, 2, 417, 418, 419, 420, 421, 422, 423, 424, 425, 428, 429, 430, 431, 432, 433, 434, 435] rfl (by decide +kernel) w h).1
set_option maxRecDepth 100000 in
theorem lwi_18 : ∀ w ∈ wsL_law0_r18, w ∈ lw_tbl := fun w h => (goodIn_r (big := lw_tbl) wsL_law0_r18 [436, 438, 437, 440, 442, 443, 441, 445, 446, 474, 447, 449, 450, 451, 452, 111, 453, 454, 455, 456, 458, 459, 460, 461] rfl (by decide +kernel) w h).1
set_option maxRecDepth 100000 in
theorem lwi_19 : ∀ w ∈ wsL_law0_r19, w ∈ lw_tbl := fun w h => (goodIn_r (big := lw_tbl) wsL_law0_r19 [462, 109, 110, 463, 464, 465, 466, 467, 468, 469, 470, 471, 472, 473, 444, 475, 476, 477, 478, 480, 479, 481, 483, 3] rfl (by decide +kernel) w h).1
set_option maxRecDepth 100000 in
theorem lwi_20 : ∀ w ∈ wsL_law0_r20, w ∈ lw_tbl := fun w h => (goodIn_r (big := lw_tbl) wsL_law0_r20 [484, 486, 487, 488, 489, 490, 492, 493, 494, 495, 496, 92, 93, 497, 498, 499, 500, 502, 4, 503, 504, 505, 506, 507] rfl (by decide +kernel) w h).1
set_option maxRecDepth 100000 in
theorem lwi_21 : ∀ w ∈ wsL_law0_r21, w ∈ lw_tbl := fun w h => (goodIn_r (big := lw_tbl) wsL_law0_r21 [508, 509, 510, 511, 512, 513, 514, 515, 517, 516, 518, 519, 520, 521, 522, 523, 525, 5, 526, 527, 528, 530, 531, 532] rfl (by decide +kernel) w h).1
set_option maxRecDepth 100000 in
theorem lwi_22 : ∀ w ∈ wsL_law0_r22, w ∈ lw_tbl := fun w h => (goodIn_r (big := lw_tbl) wsL_law0_r22 [533, 534, 535, 536, 537, 538, 539, 540, 541, 971, 972, 973, 974, 856, 848, 853, 1034, 987, 1028, 975, 977, 17, 978, 979] rfl (by decide +kernel) w h).1
set_option maxRecDepth 100000 in
theorem lwi_23 : ∀ w ∈ wsL_law0_r23, w ∈ lw_tbl := fun w h => (goodIn_r (big := lw_tbl) wsL_law0_r23 [981, 18, 982, 983, 985, 19, 986, 854, 988, 990, 20, 991, 992, 993, 994, 995, 997, 21, 998, 999, 1001, 22, 1002, 859] rfl (by decide +kernel) w h).1
set_option maxRecDepth 100000 in
theorem lwi_24 : ∀ w ∈ wsL_law0_r24, w ∈ lw_tbl := fun w h => (goodIn_r (big := lw_tbl) wsL_law0_r24 [1003, 1005, 23, 1006, 1007, 1008, 1009, 1010, 1012, 24, 1013, 1014, 1015, 855, 1029, 1016, 1018, 25, 1019, 1020, 1022, 26, 1023, 1024] rfl (by decide +kernel) w h).1
set_option maxRecDepth 100000 in
theorem lwi_25 : ∀ w ∈ wsL_law0_r25, w ∈ lw_tbl := fun w h => (goodIn_r (big := lw_tbl) wsL_law0_r25 [1026, 27, 1027, 857, 858, 1030, 1032, 28, 1033, 1035, 1037, 29, 1038, 1039, 1041, 30, 1042, 1043, 1045, 31, 1046, 710, 711, 712] rfl (by decide +kernel) w h).1
set_option maxRecDepth 100000 in
theorem lwi_26 : ∀ w ∈ wsL_law0_r26, w ∈ lw_tbl := fun w h => (goodIn_r (big := lw_tbl) wsL_law0_r26 [713, 714, 715, 716, 717, 718, 719, 720, 1047, 1048, 1049, 1050, 722, 723, 724, 725, 726, 727, 728, 730, 1051, 1052, 1053, 1054] rfl (by decide +kernel) w h).1
set_option maxRecDepth 100000 in
theorem lwi_27 : ∀ w ∈ wsL_law0_r27, w ∈ lw_tbl := fun w h => (goodIn_r (big := lw_tbl) wsL_law0_r27 [731, 732, 733, 734, 735, 736, 737, 281, 738, 739, 740, 741, 1055, 1056, 1057, 1058, 742, 743, 744, 745, 746, 747, 748, 283] rfl (by decide +kernel) w h).1
set_option maxRecDepth 100000 in
theorem lwi_28 : ∀ w ∈ wsL_law0_r28, w ∈ lw_tbl := fun w h => (goodIn_r (big := lw_tbl) wsL_law0_r28 [241, 243, 749, 753, 1059, 1060, 1061, 1062, 754, 755, 756, 757, 758, 759, 760, 245, 1063, 1064, 1065, 1066, 761, 762, 763, 764] rfl (by decide +kernel) w h).1
set_option maxRecDepth 100000 in
theorem lwi_29 : ∀ w ∈ wsL_law0_r29, w ∈ lw_tbl := fun w h => (goodIn_r (big := lw_tbl) wsL_law0_r29 [765, 766, 767, 768, 770, 55, 1067, 1068, 1069, 1070, 786, 787, 788, 789, 790, 791, 792, 1071, 1072, 1073, 1074, 793, 794, 795] rfl (by decide +kernel) w h).1
set_option maxRecDepth 100000 in
theorem lwi_30 : ∀ w ∈ wsL_law0_r30, w ∈ lw_tbl := fun w h => (goodIn_r (big := lw_tbl) wsL_law0_r30 [796, 797, 798, 799, 802, 803, 804, 805, 1075, 1076, 1077, 1078, 542, 543, 544, 545, 546, 547, 548, 549, 550, 552, 6, 553] rfl (by decide +kernel) w h).1
set_option maxRecDepth 100000 in
theorem lwi_31 : ∀ w ∈ wsL_law0_r31, w ∈ lw_tbl := fun w h => (goodIn_r (big := lw_tbl) wsL_law0_r31 [554, 556, 7, 557, 558, 560, 8, 561, 562, 564, 9, 565, 566, 567, 568, 569, 570, 571, 572, 573, 1100, 1079, 1080, 1081] rfl (by decide +kernel) w h).1
set_option maxRecDepth 100000 in
theorem lwi_32 : ∀ w ∈ wsL_law0_r32, w ∈ lw_tbl := fun w h => (goodIn_r (big := lw_tbl) wsL_law0_r32 [1082, 1083, 1085, 32, 1086, 1087, 1089, 33, 1090, 1091, 1093, 34, 1094, 574, 575, 576, 577, 155, 1095, 1096, 1097, 1098, 578, 579] rfl (by decide +kernel) w h).1
set_option maxRecDepth 100000 in
theorem lwi_33 : ∀ w ∈ wsL_law0_r33, w ∈ lw_tbl := fun w h => (goodIn_r (big := lw_tbl) wsL_law0_r33 [580, 581, 582, 583, 584, 585, 586, 587, 588, 930, 931, 932, 933] rfl (by decide +kernel) w h).1
set_option maxRecDepth 100000 in
theorem icX0 : ∀ w ∈ wsX00, w ∈ lw_tbl := fun w h => (goodIn_r (big := lw_tbl) wsX00 [196, 198, 200, 202, 204, 206] rfl (by decide +kernel) w h).1
set_option maxRecDepth 100000 in
theorem icX1 : ∀ w ∈ wsX10, w ∈ lw_tbl := fun w h => (goodIn_r (big := lw_tbl) wsX10 [75, 77] rfl (by decide +kernel) w h).1
set_option maxRecDepth 100000 in
theorem icX2 : ∀ w ∈ wsX20, w ∈ lw_tbl := fun w h => (goodIn_r (big := lw_tbl) wsX20 [247, 249, 251, 253] rfl (by decide +kernel) w h).1
set_option maxRecDepth 100000 in
theorem icX4 : ∀ w ∈ wsX40, w ∈ lw_tbl := fun w h => (goodIn_r (big := lw_tbl) wsX40 [167, 169, 171, 173, 175, 177, 179, 181] rfl (by decide +kernel) w h).1
set_option maxRecDepth 100000 in
theorem icX5 : ∀ w ∈ wsX50, w ∈ lw_tbl := fun w h => (goodIn_r (big := lw_tbl) wsX50 [120, 121, 112, 114, 116, 118] rfl (by decide +kernel) w h).1
set_option maxRecDepth 100000 in
theorem icX6 : ∀ w ∈ wsX60, w ∈ lw_tbl := fun w h => (goodIn_r (big := lw_tbl) wsX60 [131] rfl (by decide +kernel) w h).1
set_option maxRecDepth 100000 in
theorem icX7 : ∀ w ∈ wsX70, w ∈ lw_tbl := fun w h => (goodIn_r (big := lw_tbl) wsX70 [287, 289, 291, 293, 295] rfl (by decide +kernel) w h).1
set_option maxRecDepth 100000 in
theorem icX8 : ∀ w ∈ wsX80, w ∈ lw_tbl := fun w h => (goodIn_r (big := lw_tbl) wsX80 [225, 227] rfl (by decide +kernel) w h).1
set_option maxRecDepth 100000 in
theorem icX9 : ∀ w ∈ wsX90, w ∈ lw_tbl := fun w h => (goodIn_r (big := lw_tbl) wsX90 [97, 99, 95] rfl (by decide +kernel) w h).1
set_option maxRecDepth 100000 in
theorem icX10 : ∀ w ∈ wsX100, w ∈ lw_tbl := fun w h => (goodIn_r (big := lw_tbl) wsX100 [308, 310, 312, 314, 316, 318, 320, 322, 324, 326] rfl (by decide +kernel) w h).1
set_option maxRecDepth 100000 in
theorem icX11 : ∀ w ∈ wsX110, w ∈ lw_tbl := fun w h => (goodIn_r (big := lw_tbl) wsX110 [860, 862, 864, 866, 868, 870, 872, 874, 876, 878, 880, 882, 884, 886, 888, 890, 892, 894, 896, 898, 900, 902, 904, 906, 908, 910, 912, 914, 916, 918, 920, 922] rfl (by decide +kernel) w h).1
theorem wsL_law_in0 : ∀ w ∈ wsL_law0, w ∈ lw_tbl := fun w h => (List.mem_append.mp h).elim (fun h => (List.mem_append.mp h).elim (fun h => (List.mem_append.mp h).elim (fun h => (List.mem_append.mp h).elim (fun h => (List.mem_append.mp h).elim (fun h => (List.mem_append.mp h).elim (fun h => (List.mem_append.mp h).elim (fun h => (List.mem_append.mp h).elim (fun h => (List.mem_append.mp h).elim (fun h => (List.mem_append.mp h).elim (fun h => (List.mem_append.mp h).elim (fun h => (List.mem_append.mp h).elim (fun h => (List.mem_append.mp h).elim (fun h => lwi_1 w h) (fun h => (List.mem_append.mp h).elim (fun h => lwi_2 w h) (fun h => (List.mem_append.mp h).elim (fun h => lwi_3 w h) (fun h => (List.mem_append.mp h).elim (fun h => lwi_4 w h) (fun h => (List.mem_append.mp h).elim (fun h => lwi_5 w h) (fun h => (List.mem_append.mp h).elim (fun h => lwi_6 w h) (fun h => (List.mem_append.mp h).elim (fun h => lwi_7 w h) (fun h => (List.mem_append.mp h).elim (fun h => lwi_8 w h) (fun h => (List.mem_append.mp h).elim (fun h => lwi_9 w h) (fun h => (List.mem_append.mp h).elim (fun h => lwi_10 w h) (fun h => (List.mem_append.mp h).elim (fun h => lwi_11 w h) (fun h => (List.mem_append.mp h).elim (fun h => lwi_12 w h) (fun h => (List.mem_append.mp h).elim (fun h => lwi_13 w h) (fun h => (List.mem_append.mp h).elim (fun h => lwi_14 w h) (fun h => (List.mem_append.mp h).elim (fun h => lwi_15 w h) (fun h => (List.mem_append.mp h).elim (fun h => lwi_16 w h) (fun h => (List.mem_append.mp h).elim (fun h => lwi_17 w h) (fun h => (List.mem_append.mp h).elim (fun h => lwi_18 w h) (fun h => (List.mem_append.mp h).elim (fun h => lwi_19 w h) (fun h => (List.mem_append.mp h).elim (fun h => lwi_20 w h) (fun h => (List.mem_append.mp h).elim (fun h => lwi_21 w h) (fun h => (List.mem_append.mp h).elim (fun h => lwi_22 w h) (fun h => (List.mem_append.mp h).elim (fun h => lwi_23 w h) (fun h => (List.mem_append.mp h).elim (fun h => lwi_24 w h) (fun h => (List.mem_append.mp h).elim (fun h => lwi_25 w h) (fun h => (List.mem_append.mp h).elim (fun h => lwi_26 w h) (fun h => (List.mem_append.mp h).elim (fun h => lwi_27 w h) (fun h => (List.mem_append.mp h).elim (fun h => lwi_28 w h) (fun h => (List.mem_append.mp h).elim (fun h => lwi_29 w h) (fun h => (List.mem_append.mp h).elim (fun h => lwi_30 w h) (fun h => (List.mem_append.mp h).elim (fun h => lwi_31 w h) (fun h => (List.mem_append.mp h).elim (fun h => lwi_32 w h) (fun h => lwi_33 w h))))))))))))))))))))))))))))))))) (fun h => icX10 w h)) (fun h => icX11 w h)) (fun h => icX1 w h)) (fun h => icX9 w h)) (fun h => icX5 w h)) (fun h => icX6 w h)) (fun h => icX4 w h)) (fun h => icX0 w h)) (fun h => icX7 w h)) (fun h => icX8 w h)) (fun h => icX2 w h)) (fun h => absurd h List.not_mem_nil)
theorem wsL_law_in : ∀ w ∈ wsL_law, w ∈ lw_tbl := fun w h => (List.mem_append.mp h).elim (fun h => (List.mem_append.mp h).elim (fun h => (List.mem_append.mp h).elim (fun h => wsL_law_in0 w h) (fun h => wsL_law_x0 w h)) (fun h => wsL_law_x1 w h)) (fun h => wsL_law_x2 w h)
set_option maxRecDepth 20000 in
theorem ggL_law_L_cell : GoodIn wsL_law wsL_cell := goodIn_r _ [10] rfl (by decide +kernel)
set_option maxRecDepth 20000 in
theorem gL_law_L_cell : GoodIn wsL_law (va_wsS RL 56 yL_cell wsL_cell) := goodIn_app (goodIn_of _ (by decide +kernel)) ggL_law_L_cell
set_option maxRecDepth 20000 in
theorem ggL_law_X10_init : GoodIn wsL_law wsX10_init := goodIn_r _ [13, 14, 15, 16, 17, 18, 19, 20, 21, 22, 23, 24, 25, 26, 27, 28, 29, 30, 31, 32, 33, 34, 35, 36, 37, 38, 39, 40, 41, 42, 43, 44, 45, 46, 47, 48, 49, 50, 51, 52, 53, 54, 55, 56, 57, 58, 59, 60, 61, 62, 63, 64, 65, 66, 67, 68, 69, 70, 71, 72, 73, 74, 75, 76, 77, 2, 78, 79, 80, 81, 82, 83, 84, 85, 86, 87, 88, 89, 90, 91, 92, 93, 94, 95, 96, 97, 98, 99, 100, 101, 102, 103, 104, 105, 106, 107, 108, 109, 110, 111, 112, 113, 114, 115, 116, 117, 118, 119, 120, 121, 122, 123, 124, 125, 126, 127, 128, 129, 130, 131, 132, 133, 134, 135, 136, 137, 138, 139, 140, 141, 142, 143, 144, 145, 146, 147, 148, 149, 150, 151, 152, 153, 154, 155, 156, 157, 158, 159, 823, 824, 781, 782, 783, 784, 785, 786, 787, 788, 789, 790, 825, 826, 827, 828, 829, 830, 831, 832, 833, 834, 835, 836, 837, 838, 839, 840, 841, 842, 843, 844, 845, 846, 847, 848, 849, 850, 851, 852, 853, 854, 855, 856, 857, 858, 859] rfl (by decide +kernel)
set_option maxRecDepth 20000 in
theorem gL_law_X10_init : GoodIn wsL_law (wsX10_init) := ggL_law_X10_init
set_option maxRecDepth 20000 in
theorem ggL_law_X11_init : GoodIn wsL_law wsX11_init := goodIn_r _ [162, 163, 15, 16, 56, 164, 165, 166, 167, 168, 169, 170, 171, 172, 173, 174, 175, 176, 177, 178, 179, 180, 181, 182, 183, 184, 185, 186, 187, 5, 188, 189, 190, 191, 192, 193, 194, 195, 196, 197, 198, 199, 200, 201, 202, 203, 791, 792, 793, 794, 795, 796, 797, 798, 799, 800, 801, 802, 803, 804, 805, 806, 807, 808, 809, 810, 811, 812, 813, 814, 815, 816, 817, 818, 819, 820, 821, 822] rfl (by decide +kernel)
set_option maxRecDepth 20000 in
theorem gL_law_X11_init : GoodIn wsL_law (wsX11_init) := ggL_law_X11_init
set_option maxRecDepth 20000 in
theorem ggL_law_L_put : GoodIn wsL_law wsL_put := goodIn_ca (goodIn_ca (goodIn_r _ [206, 207, 208, 209, 210, 211, 2, 212, 213, 214, 215, 216, 38, 217, 218, 219, 220, 37, 221, 83, 84, 222, 223, 224, 225, 86, 226, 227, 228, 229, 92, 230, 231, 232, 233, 234, 235, 236, 33, 237, 75, 238, 239, 240, 241, 781, 782, 783, 784, 785, 786, 787, 788, 789, 790, 835, 836, 837, 838, 839, 840, 841, 842, 834] rfl (by decide +kernel)) (goodIn_sub (fun _ h => List.mem_append_left _ (List.mem_append_left _ (List.mem_append_right _ h))) (by decide +kernel))) (goodIn_sub (fun _ h => List.mem_append_left _ (List.mem_append_right _ h)) (by decide +kernel))
set_option maxRecDepth 20000 in
theorem gL_law_L_put : GoodIn wsL_law (va_wsS RL 68 yL_put wsL_put) := goodIn_app (goodIn_of _ (by decide +kernel)) ggL_law_L_put
set_option maxRecDepth 20000 in
theorem ggL_law_X11_put : GoodIn wsL_law wsX11_put := goodIn_r _ [245, 185, 246, 164, 247, 248, 249, 5, 250, 180, 181, 183, 251, 252, 253, 254, 255, 256, 791, 792, 793, 794, 795, 796, 797, 798, 799, 800, 801, 802, 803, 804, 805, 806, 807, 808, 809, 810, 811, 812, 813, 814, 815, 816, 817, 818, 819, 820, 821, 822] rfl (by decide +kernel)
set_option maxRecDepth 20000 in
theorem gL_law_X11_put : GoodIn wsL_law (wsV RL 71 RX11 yX11_put wsX11_put) := goodIn_app (goodIn_of _ (by decide +kernel)) ggL_law_X11_put
set_option maxRecDepth 20000 in
theorem ggL_law_X11_thrown : GoodIn wsL_law wsX11_thrown := goodIn_r _ [260, 246, 791, 792, 793, 794, 795, 796, 797, 798, 799, 800, 801, 802, 803, 804, 805, 806, 807, 808, 809, 810, 811, 812, 813, 814, 815, 816, 817, 818, 819, 820, 821, 822] rfl (by decide +kernel)
set_option maxRecDepth 20000 in
theorem gL_law_X11_thrown : GoodIn wsL_law (wsV RL 72 RX11 yX11_thrown wsX11_thrown) := goodIn_app (goodIn_of _ (by decide +kernel)) ggL_law_X11_thrown
set_option maxRecDepth 20000 in
theorem ggL_law_X10_paint : GoodIn wsL_law wsX10_paint := goodIn_r _ [264, 38, 265, 266, 267, 217, 226, 227, 228, 37, 229, 92, 83, 86, 230, 231, 232, 233, 234, 235, 236, 33, 237, 75, 238, 239, 240, 241, 781, 782, 783, 784, 785, 786, 787, 788, 789, 790, 835, 836, 837, 838, 839, 840, 841, 842, 834] rfl (by decide +kernel)
set_option maxRecDepth 20000 in
theorem gL_law_X10_paint : GoodIn wsL_law (wsV RL 75 RX10 yX10_paint wsX10_paint) := goodIn_app (goodIn_of _ (by decide +kernel)) ggL_law_X10_paint
set_option maxRecDepth 20000 in
theorem ggL_law_X11_paint : GoodIn wsL_law wsX11_paint := goodIn_r _ [271, 246, 181, 180, 183, 185, 164, 254, 255, 5, 256, 791, 792, 793, 794, 795, 796, 797, 798, 799, 800, 801, 802, 803, 804, 805, 806, 807, 808, 809, 810, 811, 812, 813, 814, 815, 816, 817, 818, 819, 820, 821, 822] rfl (by decide +kernel)
set_option maxRecDepth 20000 in
theorem gL_law_X11_paint : GoodIn wsL_law (wsV RL 78 RX11 yX11_paint wsX11_paint) := goodIn_app (goodIn_of _ (by decide +kernel)) ggL_law_X11_paint
set_option maxRecDepth 20000 in
theorem ggL_law_L_at : GoodIn wsL_law wsL_at := goodIn_ca (goodIn_r _ [274, 207, 275, 276, 277, 2, 278, 213, 214, 38, 218, 219, 220, 37, 221, 83, 84, 222, 223, 224, 225, 86, 279, 231, 232, 233, 92, 234, 235, 236, 33, 237, 75, 781, 782, 783, 784, 785, 786, 787, 788, 789, 790, 835, 836, 837, 838, 839, 840, 841, 842, 834] rfl (by decide +kernel)) (goodIn_sub (fun _ h => List.mem_append_left _ (List.mem_append_left _ (List.mem_append_right _ h))) (by decide +kernel))
set_option maxRecDepth 20000 in
theorem gL_law_L_at : GoodIn wsL_law (va_wsS RL 79 yL_at wsL_at) := goodIn_app (goodIn_of _ (by decide +kernel)) ggL_law_L_at
set_option maxRecDepth 20000 in
theorem ggL_law_X11_at : GoodIn wsL_law wsX11_at := goodIn_r _ [283, 246, 164, 247, 248, 249, 5, 250, 180, 181, 183, 251, 252, 253, 254, 255, 256, 791, 792, 793, 794, 795, 796, 797, 798, 799, 800, 801, 802, 803, 804, 805, 806, 807, 808, 809, 810, 811, 812, 813, 814, 815, 816, 817, 818, 819, 820, 821, 822] rfl (by decide +kernel)
set_option maxRecDepth 20000 in
theorem gL_law_X11_at : GoodIn wsL_law (wsV RL 82 RX11 yX11_at wsX11_at) := goodIn_app (goodIn_of _ (by decide +kernel)) ggL_law_X11_at
set_option maxRecDepth 20000 in
theorem ggL_law_L_predicted : GoodIn wsL_law wsL_predicted := goodIn_ca (goodIn_r _ [286, 207, 287, 288, 289, 2, 290, 213, 214, 38, 42, 218, 219, 220, 37, 221, 83, 84, 222, 223, 224, 225, 86, 291, 292, 293, 41, 294, 98, 295, 296, 297, 298, 299, 300, 301, 302, 231, 232, 233, 92, 234, 235, 236, 33, 237, 75, 303, 304, 305, 306, 307, 308, 309, 310, 87, 77, 78, 781, 782, 783, 784, 785, 786, 787, 788, 789, 790, 835, 836, 837, 838, 839, 840, 841, 842, 843, 844, 845, 846, 847, 848, 834] rfl (by decide +kernel)) (goodIn_sub (fun _ h => List.mem_append_left _ (List.mem_append_left _ (List.mem_append_right _ h))) (by decide +kernel))
set_option maxRecDepth 20000 in
theorem gL_law_L_predicted : GoodIn wsL_law (va_wsS RL 83 yL_predicted wsL_predicted) := goodIn_app (goodIn_of _ (by decide +kernel)) ggL_law_L_predicted
set_option maxRecDepth 20000 in
theorem ggL_law_X11_predicted : GoodIn wsL_law wsX11_predicted := goodIn_r _ [314, 246, 247, 248, 249, 5, 250, 180, 181, 183, 251, 252, 253, 315, 316, 317, 318, 184, 164, 185, 319, 320, 321, 322, 254, 255, 256, 323, 324, 325, 791, 792, 793, 794, 795, 796, 797, 798, 799, 800, 801, 802, 803, 804, 805, 806, 807, 808, 809, 810, 811, 812, 813, 814, 815, 816, 817, 818, 819, 820, 821, 822] rfl (by decide +kernel)
set_option maxRecDepth 20000 in
theorem gL_law_X11_predicted : GoodIn wsL_law (wsV RL 85 RX11 yX11_predicted wsX11_predicted) := goodIn_app (goodIn_of _ (by decide +kernel)) ggL_law_X11_predicted
set_option maxRecDepth 20000 in
theorem ggL_law_X10_encode : GoodIn wsL_law wsX10_encode := goodIn_r _ [329, 21, 38, 26, 46, 330, 331, 332, 19, 333, 334, 335, 336, 337, 37, 338, 90, 84, 339, 340, 341, 25, 342, 61, 343, 344, 345, 346, 347, 63, 348, 349, 350, 351, 352, 353, 354, 355, 356, 357, 358, 359, 360, 361, 362, 45, 363, 107, 364, 365, 114, 137, 138, 139, 140, 106, 115, 117, 141, 142, 143, 105, 144, 122, 145, 146, 147, 33, 148, 75, 149, 150, 151, 152, 153, 154, 155, 112, 156, 132, 157, 133, 134, 158, 159, 366, 367, 368, 369, 109, 370, 371, 372, 54, 373, 374, 292, 293, 41, 294, 98, 295, 296, 297, 298, 299, 300, 301, 302, 231, 232, 233, 92, 83, 86, 234, 235, 236, 237, 375, 376, 377, 378, 123, 379, 304, 305, 306, 307, 308, 309, 310, 87, 77, 2, 78, 380, 239, 240, 241, 381, 382, 383, 384, 385, 386, 387, 388, 389, 390, 391, 113, 392, 393, 394, 395, 396, 397, 398, 399, 400, 401, 402, 403, 404, 130, 405, 406, 407, 408, 409, 410, 411, 412, 413, 414, 415, 416, 417, 418, 419, 420, 421, 29, 422, 423, 424, 425, 426, 427, 428, 429, 430, 431, 432, 433, 434, 69, 435, 436, 437, 438, 57, 439, 440, 441, 442, 443, 444, 445, 446, 447, 448, 449, 450, 451, 452, 453, 454, 455, 456, 457, 458, 459, 460, 461, 462, 227, 228, 229, 230, 238, 463, 464, 465, 466, 467, 468, 469, 470, 471, 472, 473, 474, 475, 20, 34, 476, 477, 478, 479, 480, 481, 482, 483, 484, 485, 486, 487, 488, 489, 490, 491, 492, 493, 494, 495, 496, 497, 498, 267, 499, 500, 279, 501, 502, 503, 504, 505, 506, 507, 508, 509, 510, 511, 512, 781, 782, 783, 784, 785, 786, 787, 788, 789, 790, 823, 824, 835, 836, 837, 838, 839, 840, 841, 842, 825, 826, 827, 828, 829, 830, 831, 832, 833, 849, 850, 851, 852, 853, 854, 855, 834, 856, 857, 858, 859, 843, 844, 845, 846, 847, 848] rfl (by decide +kernel)
set_option maxRecDepth 20000 in
theorem gL_law_X10_encode : GoodIn wsL_law (wsV RL 86 RX10 yX10_encode wsX10_encode) := goodIn_app (goodIn_of _ (by decide +kernel)) ggL_law_X10_encode
set_option maxRecDepth 20000 in
theorem ggL_law_X11_encode : GoodIn wsL_law wsX11_encode := goodIn_r _ [516, 246, 193, 517, 518, 519, 520, 521, 522, 176, 177, 523, 524, 525, 5, 526, 181, 527, 528, 529, 530, 180, 531, 532, 533, 534, 535, 183, 195, 196, 197, 198, 165, 166, 199, 167, 168, 169, 536, 537, 538, 539, 540, 541, 542, 543, 544, 545, 546, 547, 548, 549, 550, 164, 551, 185, 184, 182, 552, 553, 554, 555, 174, 315, 316, 317, 318, 319, 320, 321, 322, 254, 255, 256, 323, 324, 325, 556, 557, 558, 559, 560, 561, 562, 563, 564, 565, 566, 567, 568, 569, 570, 571, 572, 573, 574, 575, 576, 577, 578, 579, 580, 179, 581, 582, 583, 584, 585, 586, 587, 588, 589, 590, 591, 592, 593, 594, 595, 596, 178, 200, 201, 202, 203, 170, 171, 172, 173, 791, 792, 793, 794, 795, 796, 797, 798, 799, 800, 801, 802, 803, 804, 805, 806, 807, 808, 809, 810, 811, 812, 813, 814, 815, 816, 817, 818, 819, 820, 821, 822] rfl (by decide +kernel)
set_option maxRecDepth 20000 in
theorem gL_law_X11_encode : GoodIn wsL_law (wsV RL 89 RX11 yX11_encode wsX11_encode) := goodIn_app (goodIn_of _ (by decide +kernel)) ggL_law_X11_encode
set_option maxRecDepth 20000 in
theorem ggL_law_L_byteAt : GoodIn wsL_law wsL_byteAt := goodIn_ca (goodIn_r _ [599, 207, 600, 601, 602, 2, 603, 213, 214, 21, 604, 605, 606, 19, 607, 334, 506, 436, 437, 438, 57, 781, 782, 783, 784, 785, 786, 787, 788, 789, 790, 823, 824] rfl (by decide +kernel)) (goodIn_sub (fun _ h => List.mem_append_left _ (List.mem_append_left _ (List.mem_append_right _ h))) (by decide +kernel))
set_option maxRecDepth 20000 in
theorem gL_law_L_byteAt : GoodIn wsL_law (va_wsS RL 90 yL_byteAt wsL_byteAt) := goodIn_app (goodIn_of _ (by decide +kernel)) ggL_law_L_byteAt
set_option maxRecDepth 20000 in
theorem ggL_law_X11_byteAt : GoodIn wsL_law wsX11_byteAt := goodIn_r _ [611, 193, 246, 178, 251, 252, 5, 253, 791, 792, 793, 794, 795, 796, 797, 798, 799, 800, 801, 802, 803, 804, 805, 806, 807, 808, 809, 810, 811, 812, 813, 814, 815, 816, 817, 818, 819, 820, 821, 822] rfl (by decide +kernel)
set_option maxRecDepth 20000 in
theorem gL_law_X11_byteAt : GoodIn wsL_law (wsV RL 93 RX11 yX11_byteAt wsX11_byteAt) := goodIn_app (goodIn_of _ (by decide +kernel)) ggL_law_X11_byteAt
set_option maxRecDepth 20000 in
theorem ggL_law_L_plain : GoodIn wsL_law wsL_plain := goodIn_ca (goodIn_r _ [614, 207, 615, 616, 617, 2, 618, 213, 214, 38, 34, 335, 336, 337, 37, 338, 90, 84, 619, 235, 236, 33, 237, 75, 781, 782, 783, 784, 785, 786, 787, 788, 789, 790, 835, 836, 837, 838, 839, 840, 841, 842, 834] rfl (by decide +kernel)) (goodIn_sub (fun _ h => List.mem_append_left _ (List.mem_append_left _ (List.mem_append_right _ h))) (by decide +kernel))
set_option maxRecDepth 20000 in
theorem gL_law_L_plain : GoodIn wsL_law (va_wsS RL 94 yL_plain wsL_plain) := goodIn_app (goodIn_of _ (by decide +kernel)) ggL_law_L_plain
set_option maxRecDepth 20000 in
theorem ggL_law_X11_plain : GoodIn wsL_law wsX11_plain := goodIn_r _ [623, 246, 176, 523, 524, 525, 5, 526, 181, 527, 528, 529, 530, 180, 251, 252, 253, 791, 792, 793, 794, 795, 796, 797, 798, 799, 800, 801, 802, 803, 804, 805, 806, 807, 808, 809, 810, 811, 812, 813, 814, 815, 816, 817, 818, 819, 820, 821, 822] rfl (by decide +kernel)
set_option maxRecDepth 20000 in
theorem gL_law_X11_plain : GoodIn wsL_law (wsV RL 96 RX11 yX11_plain wsX11_plain) := goodIn_app (goodIn_of _ (by decide +kernel)) ggL_law_X11_plain
set_option maxRecDepth 20000 in
theorem ggL_law_L_weight : GoodIn wsL_law wsL_weight := goodIn_ca (goodIn_r _ [626, 207, 627, 628, 629, 2, 630, 213, 214, 46, 631, 632, 633, 634, 105, 635, 122, 381, 235, 236, 33, 237, 75, 781, 782, 783, 784, 785, 786, 787, 788, 789, 790, 849, 850, 851, 852, 853, 854, 855, 834] rfl (by decide +kernel)) (goodIn_sub (fun _ h => List.mem_append_left _ (List.mem_append_left _ (List.mem_append_right _ h))) (by decide +kernel))
set_option maxRecDepth 20000 in
theorem gL_law_L_weight : GoodIn wsL_law (va_wsS RL 97 yL_weight wsL_weight) := goodIn_app (goodIn_of _ (by decide +kernel)) ggL_law_L_weight
set_option maxRecDepth 20000 in
theorem ggL_law_X11_weight : GoodIn wsL_law wsX11_weight := goodIn_r _ [639, 246, 170, 251, 252, 5, 253, 791, 792, 793, 794, 795, 796, 797, 798, 799, 800, 801, 802, 803, 804, 805, 806, 807, 808, 809, 810, 811, 812, 813, 814, 815, 816, 817, 818, 819, 820, 821, 822] rfl (by decide +kernel)
set_option maxRecDepth 20000 in
theorem gL_law_X11_weight : GoodIn wsL_law (wsV RL 99 RX11 yX11_weight wsX11_weight) := goodIn_app (goodIn_of _ (by decide +kernel)) ggL_law_X11_weight
set_option maxRecDepth 20000 in
theorem ggL_law_L_chance : GoodIn wsL_law wsL_chance := goodIn_ca (goodIn_ca (goodIn_r _ [642, 207, 208, 643, 644, 645, 2, 646, 213, 214, 215, 216, 38, 217, 46, 647, 648, 649, 650, 223, 224, 37, 225, 86, 651, 402, 403, 112, 404, 130, 619, 235, 236, 33, 237, 75, 781, 782, 783, 784, 785, 786, 787, 788, 789, 790, 835, 836, 837, 838, 839, 840, 841, 842, 849, 850, 851, 852, 853, 856, 857, 858, 859, 834] rfl (by decide +kernel)) (goodIn_sub (fun _ h => List.mem_append_left _ (List.mem_append_left _ (List.mem_append_right _ h))) (by decide +kernel))) (goodIn_sub (fun _ h => List.mem_append_left _ (List.mem_append_right _ h)) (by decide +kernel))
set_option maxRecDepth 20000 in
theorem gL_law_L_chance : GoodIn wsL_law (va_wsS RL 100 yL_chance wsL_chance) := goodIn_app (goodIn_of _ (by decide +kernel)) ggL_law_L_chance
set_option maxRecDepth 20000 in
theorem ggL_law_X11_chance : GoodIn wsL_law wsX11_chance := goodIn_r _ [655, 183, 185, 246, 171, 172, 251, 252, 5, 253, 791, 792, 793, 794, 795, 796, 797, 798, 799, 800, 801, 802, 803, 804, 805, 806, 807, 808, 809, 810, 811, 812, 813, 814, 815, 816, 817, 818, 819, 820, 821, 822] rfl (by decide +kernel)
set_option maxRecDepth 20000 in
theorem gL_law_X11_chance : GoodIn wsL_law (wsV RL 103 RX11 yX11_chance wsX11_chance) := goodIn_app (goodIn_of _ (by decide +kernel)) ggL_law_X11_chance
set_option maxRecDepth 20000 in
theorem ggL_law_L_share : GoodIn wsL_law wsL_share := goodIn_ca (goodIn_r _ [658, 207, 659, 660, 661, 2, 662, 213, 214, 38, 46, 647, 663, 650, 223, 224, 37, 225, 86, 619, 235, 236, 33, 237, 75, 781, 782, 783, 784, 785, 786, 787, 788, 789, 790, 849, 850, 851, 852, 853, 856, 857, 858, 859, 835, 836, 837, 838, 839, 840, 841, 842, 834] rfl (by decide +kernel)) (goodIn_sub (fun _ h => List.mem_append_left _ (List.mem_append_left _ (List.mem_append_right _ h))) (by decide +kernel))
set_option maxRecDepth 20000 in
theorem gL_law_L_share : GoodIn wsL_law (va_wsS RL 104 yL_share wsL_share) := goodIn_app (goodIn_of _ (by decide +kernel)) ggL_law_L_share
set_option maxRecDepth 20000 in
theorem ggL_law_X11_share : GoodIn wsL_law wsX11_share := goodIn_r _ [667, 183, 246, 173, 251, 252, 5, 253, 791, 792, 793, 794, 795, 796, 797, 798, 799, 800, 801, 802, 803, 804, 805, 806, 807, 808, 809, 810, 811, 812, 813, 814, 815, 816, 817, 818, 819, 820, 821, 822] rfl (by decide +kernel)
set_option maxRecDepth 20000 in
theorem gL_law_X11_share : GoodIn wsL_law (wsV RL 106 RX11 yX11_share wsX11_share) := goodIn_app (goodIn_of _ (by decide +kernel)) ggL_law_X11_share
set_option maxRecDepth 20000 in
theorem ggL_law_L_feed : GoodIn wsL_law wsL_feed := goodIn_ca (goodIn_ca (goodIn_r _ [670, 208, 671, 672, 673, 674, 2, 675, 215, 216, 676, 677, 22, 476, 477, 478, 19, 479, 334, 501, 443, 444, 445, 57, 781, 782, 783, 784, 785, 786, 787, 788, 789, 790, 823, 824] rfl (by decide +kernel)) (goodIn_sub (fun _ h => List.mem_append_left _ (List.mem_append_right _ h)) (by decide +kernel))) (goodIn_sub (fun _ h => List.mem_append_right _ h) (by decide +kernel))
set_option maxRecDepth 20000 in
theorem gL_law_L_feed : GoodIn wsL_law (va_wsS RL 107 yL_feed wsL_feed) := goodIn_app (goodIn_of _ (by decide +kernel)) ggL_law_L_feed
set_option maxRecDepth 20000 in
theorem ggL_law_X11_feed : GoodIn wsL_law wsX11_feed := goodIn_r _ [681, 194, 246, 179, 251, 252, 5, 253, 791, 792, 793, 794, 795, 796, 797, 798, 799, 800, 801, 802, 803, 804, 805, 806, 807, 808, 809, 810, 811, 812, 813, 814, 815, 816, 817, 818, 819, 820, 821, 822] rfl (by decide +kernel)
set_option maxRecDepth 20000 in
theorem gL_law_X11_feed : GoodIn wsL_law (wsV RL 109 RX11 yX11_feed wsX11_feed) := goodIn_app (goodIn_of _ (by decide +kernel)) ggL_law_X11_feed
set_option maxRecDepth 20000 in
theorem ggL_law_L_pass : GoodIn wsL_law wsL_pass := goodIn_ca (goodIn_r _ [684, 671, 685, 686, 687, 2, 688, 676, 677, 22, 21, 476, 477, 478, 19, 479, 334, 507, 508, 509, 510, 511, 436, 437, 438, 57, 512, 443, 444, 445, 781, 782, 783, 784, 785, 786, 787, 788, 789, 790, 823, 824] rfl (by decide +kernel)) (goodIn_sub (fun _ h => List.mem_append_right _ h) (by decide +kernel))
set_option maxRecDepth 20000 in
theorem gL_law_L_pass : GoodIn wsL_law (va_wsS RL 110 yL_pass wsL_pass) := goodIn_app (goodIn_of _ (by decide +kernel)) ggL_law_L_pass
set_option maxRecDepth 20000 in
theorem ggL_law_X11_pass : GoodIn wsL_law wsX11_pass := goodIn_r _ [692, 194, 193, 246, 179, 178, 791, 792, 793, 794, 795, 796, 797, 798, 799, 800, 801, 802, 803, 804, 805, 806, 807, 808, 809, 810, 811, 812, 813, 814, 815, 816, 817, 818, 819, 820, 821, 822] rfl (by decide +kernel)
set_option maxRecDepth 20000 in
theorem gL_law_X11_pass : GoodIn wsL_law (wsV RL 113 RX11 yX11_pass wsX11_pass) := goodIn_app (goodIn_of _ (by decide +kernel)) ggL_law_X11_pass
set_option maxRecDepth 20000 in
theorem ggL_law_L_poke : GoodIn wsL_law wsL_poke := goodIn_ca (goodIn_ca (goodIn_r _ [695, 207, 208, 696, 697, 698, 2, 699, 213, 214, 215, 216, 22, 604, 605, 606, 19, 607, 334, 506, 436, 437, 438, 57, 700, 701, 702, 703, 781, 782, 783, 784, 785, 786, 787, 788, 789, 790, 823, 824] rfl (by decide +kernel)) (goodIn_sub (fun _ h => List.mem_append_left _ (List.mem_append_left _ (List.mem_append_right _ h))) (by decide +kernel))) (goodIn_sub (fun _ h => List.mem_append_left _ (List.mem_append_right _ h)) (by decide +kernel))
set_option maxRecDepth 20000 in
theorem gL_law_L_poke : GoodIn wsL_law (va_wsS RL 114 yL_poke wsL_poke) := goodIn_app (goodIn_of _ (by decide +kernel)) ggL_law_L_poke
set_option maxRecDepth 20000 in
theorem ggL_law_X11_poke : GoodIn wsL_law wsX11_poke := goodIn_r _ [707, 194, 246, 179, 251, 252, 5, 253, 791, 792, 793, 794, 795, 796, 797, 798, 799, 800, 801, 802, 803, 804, 805, 806, 807, 808, 809, 810, 811, 812, 813, 814, 815, 816, 817, 818, 819, 820, 821, 822] rfl (by decide +kernel)
set_option maxRecDepth 20000 in
theorem gL_law_X11_poke : GoodIn wsL_law (wsV RL 117 RX11 yX11_poke wsX11_poke) := goodIn_app (goodIn_of _ (by decide +kernel)) ggL_law_X11_poke
set_option maxRecDepth 20000 in
theorem ggL_law_X10_decode : GoodIn wsL_law wsX10_decode := goodIn_r _ [711, 38, 22, 30, 47, 712, 713, 714, 37, 715, 83, 84, 86, 335, 336, 337, 338, 90, 716, 717, 718, 2, 719, 506, 436, 437, 19, 438, 334, 57, 720, 721, 722, 723, 476, 477, 478, 479, 503, 504, 505, 480, 481, 482, 483, 484, 485, 486, 487, 488, 372, 54, 373, 489, 353, 354, 355, 490, 491, 492, 493, 494, 357, 358, 359, 724, 725, 726, 727, 217, 728, 729, 730, 731, 267, 356, 499, 352, 500, 226, 227, 228, 229, 92, 230, 231, 232, 233, 234, 235, 236, 33, 237, 75, 238, 239, 240, 241, 732, 733, 734, 29, 735, 433, 434, 423, 736, 737, 738, 347, 63, 348, 349, 350, 351, 739, 430, 740, 431, 432, 69, 435, 360, 361, 362, 45, 363, 107, 364, 365, 114, 137, 138, 139, 140, 106, 115, 117, 141, 142, 143, 105, 144, 122, 145, 146, 147, 148, 149, 150, 151, 152, 153, 154, 155, 112, 156, 132, 157, 133, 134, 158, 159, 366, 367, 368, 369, 109, 370, 371, 374, 292, 293, 41, 294, 98, 295, 296, 297, 298, 299, 300, 301, 302, 375, 376, 377, 378, 123, 379, 304, 305, 306, 307, 308, 309, 310, 87, 77, 78, 380, 381, 382, 383, 384, 385, 386, 387, 388, 389, 390, 391, 113, 392, 393, 394, 395, 396, 397, 398, 399, 400, 401, 402, 403, 404, 130, 405, 406, 407, 408, 409, 410, 411, 412, 413, 414, 415, 416, 417, 418, 419, 420, 421, 422, 424, 425, 25, 426, 427, 428, 429, 439, 440, 441, 61, 442, 443, 444, 445, 446, 447, 448, 449, 450, 451, 452, 453, 454, 455, 456, 457, 458, 459, 460, 461, 462, 330, 331, 332, 333, 781, 782, 783, 784, 785, 786, 787, 788, 789, 790, 835, 836, 837, 838, 839, 840, 841, 842, 823, 824, 834, 828, 829, 830, 831, 832, 833, 825, 826, 827, 849, 850, 851, 852, 853, 854, 855, 856, 857, 858, 859, 843, 844, 845, 846, 847, 848] rfl (by decide +kernel)
set_option maxRecDepth 20000 in
theorem gL_law_X10_decode : GoodIn wsL_law (wsV RL 118 RX10 yX10_decode wsX10_decode) := goodIn_app (goodIn_of _ (by decide +kernel)) ggL_law_X10_decode
set_option maxRecDepth 20000 in
theorem ggL_law_X11_decode : GoodIn wsL_law wsX11_decode := goodIn_r _ [744, 246, 194, 179, 523, 524, 525, 5, 526, 181, 527, 528, 529, 530, 180, 745, 746, 747, 748, 185, 585, 586, 587, 588, 183, 543, 544, 545, 546, 540, 541, 542, 536, 537, 538, 539, 749, 750, 751, 752, 164, 254, 255, 256, 753, 754, 755, 756, 517, 579, 580, 565, 575, 576, 577, 578, 531, 532, 533, 534, 519, 521, 535, 195, 196, 197, 198, 165, 166, 199, 167, 168, 169, 547, 548, 549, 550, 551, 184, 182, 552, 553, 554, 555, 174, 315, 316, 317, 318, 319, 320, 321, 322, 323, 324, 325, 556, 557, 558, 559, 560, 561, 562, 563, 564, 566, 567, 568, 569, 570, 522, 571, 572, 573, 574, 177, 518, 581, 582, 583, 584, 791, 792, 793, 794, 795, 796, 797, 798, 799, 800, 801, 802, 803, 804, 805, 806, 807, 808, 809, 810, 811, 812, 813, 814, 815, 816, 817, 818, 819, 820, 821, 822] rfl (by decide +kernel)
set_option maxRecDepth 20000 in
theorem gL_law_X11_decode : GoodIn wsL_law (wsV RL 121 RX11 yX11_decode wsX11_decode) := goodIn_app (goodIn_of _ (by decide +kernel)) ggL_law_X11_decode
set_option maxRecDepth 20000 in
theorem ggL_law_X10_told : GoodIn wsL_law wsX10_told := goodIn_r _ [760, 38, 21, 22, 266, 265, 761, 267, 335, 336, 337, 37, 338, 90, 84, 476, 477, 478, 19, 479, 334, 781, 782, 783, 784, 785, 786, 787, 788, 789, 790, 835, 836, 837, 838, 839, 840, 841, 842, 823, 824] rfl (by decide +kernel)
set_option maxRecDepth 20000 in
theorem gL_law_X10_told : GoodIn wsL_law (wsV RL 122 RX10 yX10_told wsX10_told) := goodIn_app (goodIn_of _ (by decide +kernel)) ggL_law_X10_told
set_option maxRecDepth 20000 in
theorem ggL_law_X11_told : GoodIn wsL_law wsX11_told := goodIn_r _ [765, 246, 193, 194, 180, 181, 182, 183, 523, 524, 525, 5, 526, 527, 528, 529, 530, 791, 792, 793, 794, 795, 796, 797, 798, 799, 800, 801, 802, 803, 804, 805, 806, 807, 808, 809, 810, 811, 812, 813, 814, 815, 816, 817, 818, 819, 820, 821, 822] rfl (by decide +kernel)
set_option maxRecDepth 20000 in
theorem gL_law_X11_told : GoodIn wsL_law (wsV RL 125 RX11 yX11_told wsX11_told) := goodIn_app (goodIn_of _ (by decide +kernel)) ggL_law_X11_told
set_option maxRecDepth 20000 in
theorem ggL_law_X10_clear : GoodIn wsL_law wsX10_clear := goodIn_r _ [769, 38, 21, 22, 34, 46, 770, 771, 772, 37, 773, 92, 774, 146, 147, 33, 148, 75, 149, 150, 151, 152, 330, 331, 332, 19, 333, 334, 775, 776, 138, 139, 45, 140, 106, 115, 117, 141, 142, 143, 105, 144, 122, 145, 153, 154, 155, 112, 156, 132, 157, 133, 134, 158, 159, 781, 782, 783, 784, 785, 786, 787, 788, 789, 790, 835, 836, 837, 838, 839, 840, 841, 842, 834, 823, 824, 849, 850, 851, 852, 853, 854, 855, 856, 857, 858, 859] rfl (by decide +kernel)
set_option maxRecDepth 20000 in
theorem gL_law_X10_clear : GoodIn wsL_law (wsV RL 126 RX10 yX10_clear wsX10_clear) := goodIn_app (goodIn_of _ (by decide +kernel)) ggL_law_X10_clear
set_option maxRecDepth 20000 in
theorem ggL_law_X11_clear : GoodIn wsL_law wsX11_clear := goodIn_r _ [780, 246, 164, 189, 190, 191, 5, 192, 176, 193, 194, 195, 196, 197, 198, 165, 166, 199, 167, 168, 169, 200, 201, 202, 203, 170, 171, 172, 173, 791, 792, 793, 794, 795, 796, 797, 798, 799, 800, 801, 802, 803, 804, 805, 806, 807, 808, 809, 810, 811, 812, 813, 814, 815, 816, 817, 818, 819, 820, 821, 822] rfl (by decide +kernel)
set_option maxRecDepth 20000 in
theorem gL_law_X11_clear : GoodIn wsL_law (wsV RL 129 RX11 yX11_clear wsX11_clear) := goodIn_app (goodIn_of _ (by decide +kernel)) ggL_law_X11_clear
theorem inlX0 : ∀ w ∈ wsX00, w ∈ wsL_law := fun _ h => List.mem_append_left _ (List.mem_append_left _ (List.mem_append_left _ (List.mem_append_left _ (List.mem_append_left _ (List.mem_append_left _ (List.mem_append_left _ (List.mem_append_right _ h)))))))
theorem inlX1 : ∀ w ∈ wsX10, w ∈ wsL_law := fun _ h => List.mem_append_left _ (List.mem_append_left _ (List.mem_append_left _ (List.mem_append_left _ (List.mem_append_left _ (List.mem_append_left _ (List.mem_append_left _ (List.mem_append_left _ (List.mem_append_left _ (List.mem_append_left _ (List.mem_append_left _ (List.mem_append_left _ (List.mem_append_right _ h))))))))))))
theorem inlX2 : ∀ w ∈ wsX20, w ∈ wsL_law := fun _ h => List.mem_append_left _ (List.mem_append_left _ (List.mem_append_left _ (List.mem_append_left _ (List.mem_append_right _ h))))
theorem inlX4 : ∀ w ∈ wsX40, w ∈ wsL_law := fun _ h => List.mem_append_left _ (List.mem_append_left _ (List.mem_append_left _ (List.mem_append_left _ (List.mem_append_left _ (List.mem_append_left _ (List.mem_append_left _ (List.mem_append_left _ (List.mem_append_right _ h))))))))
theorem inlX5 : ∀ w ∈ wsX50, w ∈ wsL_law := fun _ h => List.mem_append_left _ (List.mem_append_left _ (List.mem_append_left _ (List.mem_append_left _ (List.mem_append_left _ (List.mem_append_left _ (List.mem_append_left _ (List.mem_append_left _ (List.mem_append_left _ (List.mem_append_left _ (List.mem_append_right _ h))))))))))
theorem inlX6 : ∀ w ∈ wsX60, w ∈ wsL_law := fun _ h => List.mem_append_left _ (List.mem_append_left _ (List.mem_append_left _ (List.mem_append_left _ (List.mem_append_left _ (List.mem_append_left _ (List.mem_append_left _ (List.mem_append_left _ (List.mem_append_left _ (List.mem_append_right _ h)))))))))
theorem inlX7 : ∀ w ∈ wsX70, w ∈ wsL_law := fun _ h => List.mem_append_left _ (List.mem_append_left _ (List.mem_append_left _ (List.mem_append_left _ (List.mem_append_left _ (List.mem_append_left _ (List.mem_append_right _ h))))))
theorem inlX8 : ∀ w ∈ wsX80, w ∈ wsL_law := fun _ h => List.mem_append_left _ (List.mem_append_left _ (List.mem_append_left _ (List.mem_append_left _ (List.mem_append_left _ (List.mem_append_right _ h)))))
theorem inlX9 : ∀ w ∈ wsX90, w ∈ wsL_law := fun _ h => List.mem_append_left _ (List.mem_append_left _ (List.mem_append_left _ (List.mem_append_left _ (List.mem_append_left _ (List.mem_append_left _ (List.mem_append_left _ (List.mem_append_left _ (List.mem_append_left _ (List.mem_append_left _ (List.mem_append_left _ (List.mem_append_right _ h)))))))))))
theorem inlX10 : ∀ w ∈ wsX100, w ∈ wsL_law := fun _ h => List.mem_append_left _ (List.mem_append_left _ (List.mem_append_left _ (List.mem_append_left _ (List.mem_append_left _ (List.mem_append_left _ (List.mem_append_left _ (List.mem_append_left _ (List.mem_append_left _ (List.mem_append_left _ (List.mem_append_left _ (List.mem_append_left _ (List.mem_append_left _ (List.mem_append_left _ (List.mem_append_right _ h))))))))))))))
theorem inlX11 : ∀ w ∈ wsX110, w ∈ wsL_law := fun _ h => List.mem_append_left _ (List.mem_append_left _ (List.mem_append_left _ (List.mem_append_left _ (List.mem_append_left _ (List.mem_append_left _ (List.mem_append_left _ (List.mem_append_left _ (List.mem_append_left _ (List.mem_append_left _ (List.mem_append_left _ (List.mem_append_left _ (List.mem_append_left _ (List.mem_append_right _ h)))))))))))))
