/-! ===== the words of the law lie in its tables ===== -/
theorem memIn_r {big : List Cond} (ws : List Cond) (ps : List Nat) (hp : ws = ps.filterMap (fun i => big[i]?)) : ∀ w ∈ ws, w ∈ big := fun w hw => by
  rw [hp] at hw
  obtain ⟨i, -, hi⟩ := List.mem_filterMap.mp hw
  exact List.mem_of_getElem? hi
set_option maxRecDepth 20000 in
theorem wsL_lawr_1 : ∀ w ∈ wsL_law0_r1, w ∈ lw_tbl := memIn_r _ [93, 94, 66, 921, 922, 79, 262, 1336, 95, 96, 97, 98, 99, 100, 101, 405, 103, 67, 407, 128, 408, 132, 133, 69] rfl
set_option maxRecDepth 20000 in
theorem wsL_lawr_2 : ∀ w ∈ wsL_law0_r2, w ∈ lw_tbl := memIn_r _ [409, 148, 149, 70, 410, 227, 228, 73, 411, 412, 263, 264, 74, 415, 279, 280, 75, 416, 318, 319, 76, 417, 336, 337] rfl
set_option maxRecDepth 20000 in
theorem wsL_lawr_3 : ∀ w ∈ wsL_law0_r3, w ∈ lw_tbl := memIn_r _ [77, 418, 419, 104, 105, 106, 107, 108, 112, 129, 130, 68, 131, 135, 136, 137, 138, 150, 151, 152, 153, 154, 200, 156] rfl
set_option maxRecDepth 20000 in
theorem wsL_lawr_4 : ∀ w ∈ wsL_law0_r4, w ∈ lw_tbl := memIn_r _ [71, 158, 159, 160, 161, 162, 72, 182, 184, 185, 164, 165, 166, 230, 231, 232, 240, 241, 242, 243, 266, 267, 268, 269] rfl
set_option maxRecDepth 20000 in
theorem wsL_lawr_5 : ∀ w ∈ wsL_law0_r5, w ∈ lw_tbl := memIn_r _ [282, 283, 284, 285, 287, 288, 289, 290, 321, 322, 323, 324, 327, 328, 339, 340, 341, 342, 343, 78, 370, 371, 369, 372] rfl
set_option maxRecDepth 20000 in
theorem wsL_lawr_6 : ∀ w ∈ wsL_law0_r6, w ∈ lw_tbl := memIn_r _ [373, 374, 375, 376, 377, 378, 379, 404, 380, 345, 346, 347, 348, 350, 352, 923, 924, 925, 926, 928, 929, 930, 932, 886] rfl
set_option maxRecDepth 20000 in
theorem wsL_lawr_7 : ∀ w ∈ wsL_law0_r7, w ∈ lw_tbl := memIn_r _ [933, 942, 943, 944, 948, 949, 951, 953, 954, 955, 956, 957, 958, 959, 960, 961, 962, 963, 964, 966, 454, 455, 456, 457] rfl
set_option maxRecDepth 20000 in
theorem wsL_lawr_8 : ∀ w ∈ wsL_law0_r8, w ∈ lw_tbl := memIn_r _ [406, 1055, 1056, 1057, 1058, 927, 931, 458, 459, 460, 461, 462, 464, 0, 465, 466, 467, 468, 120, 469, 470, 471, 472, 116] rfl
set_option maxRecDepth 20000 in
theorem wsL_lawr_9 : ∀ w ∈ wsL_law0_r9, w ∈ lw_tbl := memIn_r _ [473, 474, 475, 476, 1059, 1060, 1061, 1062, 1063, 1065, 37, 1066, 1067, 1069, 38, 1070, 477, 478, 479, 480, 1071, 1072, 1073, 1074] rfl
set_option maxRecDepth 20000 in
theorem wsL_lawr_10 : ∀ w ∈ wsL_law0_r10, w ∈ lw_tbl := memIn_r _ [481, 482, 483, 484, 1075, 1076, 1077, 1078, 485, 486, 487, 488, 1079, 1080, 1081, 1082, 489, 490, 491, 492, 142, 493, 494, 495] rfl
set_option maxRecDepth 20000 in
theorem wsL_lawr_11 : ∀ w ∈ wsL_law0_r11, w ∈ lw_tbl := memIn_r _ [496, 140, 497, 498, 499, 500, 1083, 1084, 1085, 1086, 934, 501, 502, 503, 504, 414, 199, 413, 235, 505, 506, 507, 508, 234] rfl
set_option maxRecDepth 20000 in
theorem wsL_lawr_12 : ∀ w ∈ wsL_law0_r12, w ∈ lw_tbl := memIn_r _ [202, 201, 205, 203, 183, 170, 236, 173, 238, 509, 510, 511, 512, 187, 513, 514, 515, 516, 167, 169, 172, 517, 519, 1] rfl
set_option maxRecDepth 20000 in
theorem wsL_lawr_13 : ∀ w ∈ wsL_law0_r13, w ∈ lw_tbl := memIn_r _ [520, 141, 139, 198, 521, 522, 523, 524, 525, 527, 2, 528, 204, 529, 530, 531, 532, 534, 3, 535, 536, 538, 4, 539] rfl
set_option maxRecDepth 20000 in
theorem wsL_lawr_14 : ∀ w ∈ wsL_law0_r14, w ∈ lw_tbl := memIn_r _ [206, 207, 540, 542, 5, 543, 544, 546, 6, 547, 186, 188, 548, 549, 550, 551, 233, 552, 553, 554, 555, 174, 171, 556] rfl
set_option maxRecDepth 20000 in
theorem wsL_lawr_15 : ∀ w ∈ wsL_law0_r15, w ∈ lw_tbl := memIn_r _ [557, 558, 559, 560, 561, 562, 563, 564, 565, 566, 567, 568, 569, 571, 7, 572, 573, 575, 8, 576, 577, 579, 9, 580] rfl
set_option maxRecDepth 20000 in
theorem wsL_lawr_16 : ∀ w ∈ wsL_law0_r16, w ∈ lw_tbl := memIn_r _ [168, 581, 582, 583, 584, 585, 586, 587, 588, 589, 590, 592, 10, 593, 594, 1087, 1088, 1089, 1090, 935, 939, 945, 946, 947] rfl
set_option maxRecDepth 20000 in
theorem wsL_lawr_17 : ∀ w ∈ wsL_law0_r17, w ∈ lw_tbl := memIn_r _ [936, 941, 940, 1228, 1230, 1229, 86, 1091, 1093, 39, 1094, 937, 938, 1095, 1097, 40, 1098, 1100, 1101, 1102, 80, 1103, 1104, 1105] rfl
set_option maxRecDepth 20000 in
theorem wsL_lawr_18 : ∀ w ∈ wsL_law0_r18, w ∈ lw_tbl := memIn_r _ [1106, 1107, 1339, 1108, 1109, 1110, 1111, 1112, 1338, 1114, 1115, 1116, 1117, 1118, 1119, 1120, 1121, 1122, 1123, 81, 1124, 1128, 1129, 82] rfl
set_option maxRecDepth 20000 in
theorem wsL_lawr_19 : ∀ w ∈ wsL_law0_r19, w ∈ lw_tbl := memIn_r _ [1130, 1131, 660, 661, 1125, 1126, 1127, 1132, 1133, 1134, 1135, 1136, 83, 1137, 1138, 1139, 1140, 1141, 1142, 1143, 1144, 1145, 1146, 1147] rfl
set_option maxRecDepth 20000 in
theorem wsL_lawr_20 : ∀ w ∈ wsL_law0_r20, w ∈ lw_tbl := memIn_r _ [1148, 1149, 1150, 1151, 1152, 1153, 1155, 1156, 84, 1157, 1158, 1159, 1160, 1161, 1162, 1163, 1164, 1166, 1168, 1170, 1171, 1172, 1173, 1174] rfl
set_option maxRecDepth 20000 in
theorem wsL_lawr_21 : ∀ w ∈ wsL_law0_r21, w ∈ lw_tbl := memIn_r _ [85, 1175, 1176, 1177, 1178, 1179, 1180, 1181, 1182, 1183, 1184, 1186, 41, 1187, 1188, 1190, 42, 1200, 1202, 45, 1203, 1196, 1198, 44] rfl
set_option maxRecDepth 20000 in
theorem wsL_lawr_22 : ∀ w ∈ wsL_law0_r22, w ∈ lw_tbl := memIn_r _ [1199, 1192, 1194, 43, 1195, 1211, 1212, 1214, 48, 1215, 1216, 1218, 49, 1219, 1220, 1222, 50, 1223, 1224, 1226, 51, 1227, 1207, 1208] rfl
set_option maxRecDepth 20000 in
theorem wsL_lawr_23 : ∀ w ∈ wsL_law0_r23, w ∈ lw_tbl := memIn_r _ [1210, 47, 1191, 1204, 1206, 46, 595, 596, 597, 598, 1231, 1232, 1233, 1234, 599, 600, 601, 602, 326, 603, 605, 11, 606, 273] rfl
set_option maxRecDepth 20000 in
theorem wsL_lawr_24 : ∀ w ∈ wsL_law0_r24, w ∈ lw_tbl := memIn_r _ [607, 608, 609, 610, 271, 118, 611, 612, 613, 110, 114, 614, 615, 616, 617, 618, 619, 620, 621, 622, 623, 624, 625, 626] rfl
set_option maxRecDepth 20000 in
theorem wsL_lawr_25 : ∀ w ∈ wsL_law0_r25, w ∈ lw_tbl := memIn_r _ [627, 628, 629, 630, 272, 244, 270, 631, 633, 12, 634, 635, 636, 637, 638, 237, 239, 639, 641, 13, 642, 643, 644, 645] rfl
set_option maxRecDepth 20000 in
theorem wsL_lawr_26 : ∀ w ∈ wsL_law0_r26, w ∈ lw_tbl := memIn_r _ [646, 325, 1235, 1236, 1237, 1238, 952, 950, 1239, 1241, 52, 1242, 1243, 1244, 1245, 1246, 1248, 53, 1249, 1250, 1252, 54, 1253, 1254] rfl
set_option maxRecDepth 20000 in
theorem wsL_lawr_27 : ∀ w ∈ wsL_law0_r27, w ∈ lw_tbl := memIn_r _ [1255, 87, 1256, 1257, 1258, 1260, 55, 1261, 647, 648, 649, 650, 651, 652, 653, 654, 659, 667, 655, 656, 657, 658, 662, 664] rfl
set_option maxRecDepth 20000 in
theorem wsL_lawr_28 : ∀ w ∈ wsL_law0_r28, w ∈ lw_tbl := memIn_r _ [14, 665, 291, 292, 293, 294, 295, 666, 296, 668, 669, 671, 15, 672, 119, 673, 675, 16, 676, 677, 679, 17, 680, 111] rfl
set_option maxRecDepth 20000 in
theorem wsL_lawr_29 : ∀ w ∈ wsL_law0_r29, w ∈ lw_tbl := memIn_r _ [681, 683, 18, 684, 685, 686, 687, 688, 690, 19, 691, 115, 692, 694, 20, 695, 696, 698, 21, 699, 700, 702, 22, 703] rfl
set_option maxRecDepth 20000 in
theorem wsL_lawr_30 : ∀ w ∈ wsL_law0_r30, w ∈ lw_tbl := memIn_r _ [704, 706, 23, 707, 708, 709, 710, 711, 712, 713, 714, 715, 716, 717, 718, 719, 1281, 1282, 1283, 1284, 1274, 1285, 1287, 59] rfl
set_option maxRecDepth 20000 in
theorem wsL_lawr_31 : ∀ w ∈ wsL_law0_r31, w ∈ lw_tbl := memIn_r _ [1288, 1280, 1289, 1291, 60, 1292, 1276, 1278, 58, 1279, 812, 813, 65, 814, 815, 816, 817, 818, 819, 820, 91, 887, 888, 889] rfl
set_option maxRecDepth 20000 in
theorem wsL_lawr_32 : ∀ w ∈ wsL_law0_r32, w ∈ lw_tbl := memIn_r _ [890, 1293, 1294, 1295, 1296, 1051, 1052, 1053, 1054, 720, 721, 722, 723, 724, 725, 726, 727, 728, 1262, 1263, 1264, 1265, 1266, 1268] rfl
set_option maxRecDepth 20000 in
theorem wsL_lawr_33 : ∀ w ∈ wsL_law0_r33, w ∈ lw_tbl := memIn_r _ [56, 1269, 1270, 1272, 57, 1273, 1275, 729, 730, 731, 732, 733, 734, 735, 736, 737, 357, 738, 739, 740, 741, 354, 356, 117] rfl
set_option maxRecDepth 20000 in
theorem wsL_lawr_34 : ∀ w ∈ wsL_law0_r34, w ∈ lw_tbl := memIn_r _ [109, 113, 742, 743, 744, 745, 746, 355, 747, 749, 24, 750, 351, 751, 349, 752, 753, 755, 25, 756, 353, 757, 759, 26] rfl
set_option maxRecDepth 20000 in
theorem wsL_lawr_35 : ∀ w ∈ wsL_law0_r35, w ∈ lw_tbl := memIn_r _ [760, 761, 762, 764, 27, 765, 766, 768, 28, 769, 770, 772, 29, 773, 774, 776, 30, 777, 778, 780, 31, 781, 782, 783] rfl
set_option maxRecDepth 20000 in
theorem wsL_lawr_36 : ∀ w ∈ wsL_law0_r36, w ∈ lw_tbl := memIn_r _ [785, 32, 786, 1297, 1298, 1299, 1300, 1318, 1301, 1303, 61, 1304, 965, 1305, 1307, 62, 1308, 1309, 1311, 63, 1312, 1313, 1315, 64] rfl
set_option maxRecDepth 20000 in
theorem wsL_lawr_37 : ∀ w ∈ wsL_law0_r37, w ∈ lw_tbl := memIn_r _ [1316, 1317, 891, 892, 893, 894, 895, 896, 897, 898, 904, 92, 920, 900, 901, 902, 903, 1319, 1320, 1321, 1322, 1323, 787, 788] rfl
set_option maxRecDepth 20000 in
theorem wsL_lawr_38 : ∀ w ∈ wsL_law0_r38, w ∈ lw_tbl := memIn_r _ [789, 790, 420, 791, 793, 33, 794, 795, 797, 34, 798, 799, 1324, 1325, 1326, 1327, 967, 800, 801, 802, 803, 1328, 1329, 1330] rfl
set_option maxRecDepth 20000 in
theorem wsL_lawr_39 : ∀ w ∈ wsL_law0_r39, w ∈ lw_tbl := memIn_r _ [1331, 804, 805, 806, 807, 808, 810, 35, 811, 1332, 1333, 1334, 1335] rfl
theorem mem_apL {big a b : List Cond} (ha : ∀ w ∈ a, w ∈ big) (hb : ∀ w ∈ b, w ∈ big) : ∀ w ∈ a ++ b, w ∈ big := fun w h => (List.mem_append.mp h).elim (ha w) (hb w)
set_option maxRecDepth 20000 in
theorem inw_0 : ∀ w ∈ wsX00, w ∈ lw_tbl := memIn_r _ [381, 383, 385, 387, 389, 391, 393, 395, 397, 399, 401] rfl
set_option maxRecDepth 20000 in
theorem inw_1 : ∀ w ∈ wsX10, w ∈ lw_tbl := memIn_r _ [329, 331, 333] rfl
set_option maxRecDepth 20000 in
theorem inw_2 : ∀ w ∈ wsX20, w ∈ lw_tbl := memIn_r _ [189, 191, 193, 195] rfl
set_option maxRecDepth 20000 in
theorem inw_3 : ∀ w ∈ wsX30, w ∈ lw_tbl := memIn_r _ [358, 360, 362, 364, 366] rfl
set_option maxRecDepth 20000 in
theorem inw_4 : ∀ w ∈ wsX40, w ∈ lw_tbl := memIn_r _ [121, 123, 125] rfl
set_option maxRecDepth 20000 in
theorem inw_5 : ∀ w ∈ wsX50, w ∈ lw_tbl := memIn_r _ [175, 177, 179] rfl
set_option maxRecDepth 20000 in
theorem inw_6 : ∀ w ∈ wsX60, w ∈ lw_tbl := memIn_r _ [274, 276] rfl
set_option maxRecDepth 20000 in
theorem inw_7 : ∀ w ∈ wsX70, w ∈ lw_tbl := memIn_r _ [143, 145] rfl
set_option maxRecDepth 20000 in
theorem inw_8 : ∀ w ∈ wsX80, w ∈ lw_tbl := memIn_r _ [297, 299, 301, 303, 305, 307, 309, 311, 313, 315] rfl
set_option maxRecDepth 20000 in
theorem inw_9 : ∀ w ∈ wsX90, w ∈ lw_tbl := memIn_r _ [245, 247, 249, 251, 253, 255, 257, 259] rfl
set_option maxRecDepth 20000 in
theorem inw_10 : ∀ w ∈ wsX100, w ∈ lw_tbl := memIn_r _ [208, 210, 212, 214, 216, 218, 220, 222, 224] rfl
set_option maxRecDepth 20000 in
theorem inw_11 : ∀ w ∈ wsX110, w ∈ lw_tbl := memIn_r _ [421, 423, 425, 427, 429, 431, 433, 435, 437, 439, 441, 443, 445, 447, 449, 451] rfl
set_option maxRecDepth 20000 in
theorem inw_12 : ∀ w ∈ wsX120, w ∈ lw_tbl := memIn_r _ [968, 970, 972, 974, 976, 978, 980, 982, 984, 986, 988, 990, 992, 994, 996, 998, 1000, 1002, 1004, 1006, 1008, 1010, 1012, 1014, 1016, 1018, 1020, 1022, 1024, 1026, 1028, 1030, 1032, 1034, 1036, 1038, 1040, 1042, 1044, 1046, 1048] rfl
theorem wsL_law_in0 : ∀ w ∈ wsL_law0, w ∈ lw_tbl := by
  unfold wsL_law0
  exact mem_apL (mem_apL (mem_apL (mem_apL (mem_apL (mem_apL (mem_apL (mem_apL (mem_apL (mem_apL (mem_apL (mem_apL (mem_apL (mem_apL (mem_apL wsL_lawr_1 (mem_apL wsL_lawr_2 (mem_apL wsL_lawr_3 (mem_apL wsL_lawr_4 (mem_apL wsL_lawr_5 (mem_apL wsL_lawr_6 (mem_apL wsL_lawr_7 (mem_apL wsL_lawr_8 (mem_apL wsL_lawr_9 (mem_apL wsL_lawr_10 (mem_apL wsL_lawr_11 (mem_apL wsL_lawr_12 (mem_apL wsL_lawr_13 (mem_apL wsL_lawr_14 (mem_apL wsL_lawr_15 (mem_apL wsL_lawr_16 (mem_apL wsL_lawr_17 (mem_apL wsL_lawr_18 (mem_apL wsL_lawr_19 (mem_apL wsL_lawr_20 (mem_apL wsL_lawr_21 (mem_apL wsL_lawr_22 (mem_apL wsL_lawr_23 (mem_apL wsL_lawr_24 (mem_apL wsL_lawr_25 (mem_apL wsL_lawr_26 (mem_apL wsL_lawr_27 (mem_apL wsL_lawr_28 (mem_apL wsL_lawr_29 (mem_apL wsL_lawr_30 (mem_apL wsL_lawr_31 (mem_apL wsL_lawr_32 (mem_apL wsL_lawr_33 (mem_apL wsL_lawr_34 (mem_apL wsL_lawr_35 (mem_apL wsL_lawr_36 (mem_apL wsL_lawr_37 (mem_apL wsL_lawr_38 wsL_lawr_39)))))))))))))))))))))))))))))))))))))) inw_11) inw_12) inw_4) inw_7) inw_10) inw_9) inw_6) inw_8) inw_1) inw_0) inw_2) inw_5) inw_3) (fun w h => absurd h (List.not_mem_nil))
set_option maxRecDepth 20000 in
theorem wsL_law_x0 : ∀ w ∈ (vx_atS RX11 143 "java/lang/IndexOutOfBoundsException" ["java/lang/RuntimeException", "java/lang/Exception"]).filter goodWord, w ∈ lw_tbl := memIn_r _ [88, 842, 851, 854, 857, 859, 843, 844, 99, 100, 845, 850, 855, 875, 832, 876, 834, 877, 836, 846, 848, 838, 871, 872, 874, 838, 862, 863, 864, 865, 865, 866, 867, 868, 868, 869, 870, 871, 861, 821, 829, 830, 831, 833, 835, 837, 841, 840, 839] rfl
set_option maxRecDepth 20000 in
theorem wsL_law_x1 : ∀ w ∈ (vx_atS RX11 175 "java/lang/ArithmeticException" ["java/lang/RuntimeException", "java/lang/Exception"]).filter goodWord, w ∈ lw_tbl := memIn_r _ [88, 842, 851, 854, 857, 859, 843, 844, 99, 100, 845, 850, 855, 875, 832, 876, 834, 877, 836, 846, 848, 838, 871, 872, 874, 838, 915, 916, 917, 865, 865, 866, 867, 868, 868, 869, 870, 871, 914, 905, 907, 853, 908, 909, 910, 911, 841, 840, 912] rfl
theorem wsL_law_in : ∀ w ∈ wsL_law, w ∈ lw_tbl := fun w h => (List.mem_append.mp h).elim (fun h => (List.mem_append.mp h).elim (fun h => wsL_law_in0 w h) (fun h => wsL_law_x0 w h)) (fun h => wsL_law_x1 w h)
theorem inlX0 : ∀ w ∈ wsX00, w ∈ wsL_law := fun _ h => List.mem_append_left _ (List.mem_append_left _ (List.mem_append_left _ (List.mem_append_left _ (List.mem_append_left _ (List.mem_append_left _ (List.mem_append_right _ h))))))
theorem inX0 : ∀ w ∈ wsX00, w ∈ lw_tbl := fun w h => wsL_law_in w (inlX0 w h)
theorem inlX1 : ∀ w ∈ wsX10, w ∈ wsL_law := fun _ h => List.mem_append_left _ (List.mem_append_left _ (List.mem_append_left _ (List.mem_append_left _ (List.mem_append_left _ (List.mem_append_left _ (List.mem_append_left _ (List.mem_append_right _ h)))))))
theorem inX1 : ∀ w ∈ wsX10, w ∈ lw_tbl := fun w h => wsL_law_in w (inlX1 w h)
theorem inlX2 : ∀ w ∈ wsX20, w ∈ wsL_law := fun _ h => List.mem_append_left _ (List.mem_append_left _ (List.mem_append_left _ (List.mem_append_left _ (List.mem_append_left _ (List.mem_append_right _ h)))))
theorem inX2 : ∀ w ∈ wsX20, w ∈ lw_tbl := fun w h => wsL_law_in w (inlX2 w h)
theorem inlX3 : ∀ w ∈ wsX30, w ∈ wsL_law := fun _ h => List.mem_append_left _ (List.mem_append_left _ (List.mem_append_left _ (List.mem_append_right _ h)))
theorem inX3 : ∀ w ∈ wsX30, w ∈ lw_tbl := fun w h => wsL_law_in w (inlX3 w h)
theorem inlX4 : ∀ w ∈ wsX40, w ∈ wsL_law := fun _ h => List.mem_append_left _ (List.mem_append_left _ (List.mem_append_left _ (List.mem_append_left _ (List.mem_append_left _ (List.mem_append_left _ (List.mem_append_left _ (List.mem_append_left _ (List.mem_append_left _ (List.mem_append_left _ (List.mem_append_left _ (List.mem_append_left _ (List.mem_append_left _ (List.mem_append_right _ h)))))))))))))
theorem inX4 : ∀ w ∈ wsX40, w ∈ lw_tbl := fun w h => wsL_law_in w (inlX4 w h)
theorem inlX5 : ∀ w ∈ wsX50, w ∈ wsL_law := fun _ h => List.mem_append_left _ (List.mem_append_left _ (List.mem_append_left _ (List.mem_append_left _ (List.mem_append_right _ h))))
theorem inX5 : ∀ w ∈ wsX50, w ∈ lw_tbl := fun w h => wsL_law_in w (inlX5 w h)
theorem inlX6 : ∀ w ∈ wsX60, w ∈ wsL_law := fun _ h => List.mem_append_left _ (List.mem_append_left _ (List.mem_append_left _ (List.mem_append_left _ (List.mem_append_left _ (List.mem_append_left _ (List.mem_append_left _ (List.mem_append_left _ (List.mem_append_left _ (List.mem_append_right _ h)))))))))
theorem inX6 : ∀ w ∈ wsX60, w ∈ lw_tbl := fun w h => wsL_law_in w (inlX6 w h)
theorem inlX7 : ∀ w ∈ wsX70, w ∈ wsL_law := fun _ h => List.mem_append_left _ (List.mem_append_left _ (List.mem_append_left _ (List.mem_append_left _ (List.mem_append_left _ (List.mem_append_left _ (List.mem_append_left _ (List.mem_append_left _ (List.mem_append_left _ (List.mem_append_left _ (List.mem_append_left _ (List.mem_append_left _ (List.mem_append_right _ h))))))))))))
theorem inX7 : ∀ w ∈ wsX70, w ∈ lw_tbl := fun w h => wsL_law_in w (inlX7 w h)
theorem inlX8 : ∀ w ∈ wsX80, w ∈ wsL_law := fun _ h => List.mem_append_left _ (List.mem_append_left _ (List.mem_append_left _ (List.mem_append_left _ (List.mem_append_left _ (List.mem_append_left _ (List.mem_append_left _ (List.mem_append_left _ (List.mem_append_right _ h))))))))
theorem inX8 : ∀ w ∈ wsX80, w ∈ lw_tbl := fun w h => wsL_law_in w (inlX8 w h)
theorem inlX9 : ∀ w ∈ wsX90, w ∈ wsL_law := fun _ h => List.mem_append_left _ (List.mem_append_left _ (List.mem_append_left _ (List.mem_append_left _ (List.mem_append_left _ (List.mem_append_left _ (List.mem_append_left _ (List.mem_append_left _ (List.mem_append_left _ (List.mem_append_left _ (List.mem_append_right _ h))))))))))
theorem inX9 : ∀ w ∈ wsX90, w ∈ lw_tbl := fun w h => wsL_law_in w (inlX9 w h)
theorem inlX10 : ∀ w ∈ wsX100, w ∈ wsL_law := fun _ h => List.mem_append_left _ (List.mem_append_left _ (List.mem_append_left _ (List.mem_append_left _ (List.mem_append_left _ (List.mem_append_left _ (List.mem_append_left _ (List.mem_append_left _ (List.mem_append_left _ (List.mem_append_left _ (List.mem_append_left _ (List.mem_append_right _ h)))))))))))
theorem inX10 : ∀ w ∈ wsX100, w ∈ lw_tbl := fun w h => wsL_law_in w (inlX10 w h)
theorem inlX11 : ∀ w ∈ wsX110, w ∈ wsL_law := fun _ h => List.mem_append_left _ (List.mem_append_left _ (List.mem_append_left _ (List.mem_append_left _ (List.mem_append_left _ (List.mem_append_left _ (List.mem_append_left _ (List.mem_append_left _ (List.mem_append_left _ (List.mem_append_left _ (List.mem_append_left _ (List.mem_append_left _ (List.mem_append_left _ (List.mem_append_left _ (List.mem_append_left _ (List.mem_append_right _ h)))))))))))))))
theorem inX11 : ∀ w ∈ wsX110, w ∈ lw_tbl := fun w h => wsL_law_in w (inlX11 w h)
theorem inlX12 : ∀ w ∈ wsX120, w ∈ wsL_law := fun _ h => List.mem_append_left _ (List.mem_append_left _ (List.mem_append_left _ (List.mem_append_left _ (List.mem_append_left _ (List.mem_append_left _ (List.mem_append_left _ (List.mem_append_left _ (List.mem_append_left _ (List.mem_append_left _ (List.mem_append_left _ (List.mem_append_left _ (List.mem_append_left _ (List.mem_append_left _ (List.mem_append_right _ h))))))))))))))
theorem inX12 : ∀ w ∈ wsX120, w ∈ lw_tbl := fun w h => wsL_law_in w (inlX12 w h)
set_option maxRecDepth 20000 in
theorem inJ11 : ∀ w ∈ wsJ110, w ∈ lw_tbl := memIn_r _ [] rfl
set_option maxRecDepth 20000 in
theorem inJ6 : ∀ w ∈ wsJ60, w ∈ lw_tbl := memIn_r _ [] rfl
set_option maxRecDepth 20000 in
theorem inJ9 : ∀ w ∈ wsJ90, w ∈ lw_tbl := memIn_r _ [] rfl
set_option maxRecDepth 20000 in
theorem inJ0 : ∀ w ∈ wsJ00, w ∈ lw_tbl := memIn_r _ [] rfl
set_option maxRecDepth 20000 in
theorem inJ1 : ∀ w ∈ wsJ10, w ∈ lw_tbl := memIn_r _ [] rfl
set_option maxRecDepth 20000 in
theorem inJ2 : ∀ w ∈ wsJ20, w ∈ lw_tbl := memIn_r _ [] rfl
set_option maxRecDepth 20000 in
theorem inJ10 : ∀ w ∈ wsJ100, w ∈ lw_tbl := memIn_r _ [] rfl
set_option maxRecDepth 20000 in
theorem inJ7 : ∀ w ∈ wsJ70, w ∈ lw_tbl := memIn_r _ [] rfl
set_option maxRecDepth 20000 in
theorem inJ3 : ∀ w ∈ wsJ30, w ∈ lw_tbl := memIn_r _ [] rfl
