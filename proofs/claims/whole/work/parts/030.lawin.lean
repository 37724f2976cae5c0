theorem zz_pl {ws big : List Cond} (ps : List Nat) (hp : ws = ps.filterMap (fun i => big[i]?)) : ∀ w ∈ ws, w ∈ big := fun w h => by
  rw [hp] at h
  obtain ⟨i, -, hi⟩ := List.mem_filterMap.mp h
  exact List.mem_of_getElem? hi
set_option maxRecDepth 20000 in
theorem zz_in_wsL_law_r1 : ∀ w ∈ wsL_law_r1, w ∈ lw_tbl := zz_pl [62, 63, 51, 828, 829, 59, 64, 65, 66, 67, 68, 69, 70, 71, 52, 255, 122, 123, 53, 256, 150, 151, 54, 257] (by decide +kernel)
set_option maxRecDepth 20000 in
theorem zz_in_wsL_law_r2 : ∀ w ∈ wsL_law_r2, w ∈ lw_tbl := zz_pl [166, 167, 55, 258, 190, 191, 56, 259, 221, 222, 57, 260, 241, 242, 58, 261, 121, 262, 267, 73, 74, 75, 76, 79] (by decide +kernel)
set_option maxRecDepth 20000 in
theorem zz_in_wsL_law_r3 : ∀ w ∈ wsL_law_r3, w ∈ lw_tbl := zz_pl [88, 92, 93, 94, 95, 125, 126, 127, 137, 138, 153, 154, 155, 156, 157, 158, 169, 170, 171, 176, 177, 178, 193, 194] (by decide +kernel)
set_option maxRecDepth 20000 in
theorem zz_in_wsL_law_r4 : ∀ w ∈ wsL_law_r4, w ∈ lw_tbl := zz_pl [195, 198, 200, 201, 204, 205, 224, 225, 226, 229, 230, 244, 245, 246, 247, 249, 830, 831, 832, 833, 835, 836, 837, 841] (by decide +kernel)
set_option maxRecDepth 20000 in
theorem zz_in_wsL_law_r5 : ∀ w ∈ wsL_law_r5, w ∈ lw_tbl := zz_pl [843, 844, 845, 846, 847, 849, 850, 853, 854, 855, 858, 859, 860, 934, 861, 862, 863, 864, 865, 295, 296, 297, 298, 264] (by decide +kernel)
set_option maxRecDepth 20000 in
theorem zz_in_wsL_law_r6 : ∀ w ∈ wsL_law_r6, w ∈ lw_tbl := zz_pl [265, 299, 300, 301, 302, 303, 304, 305, 82, 84, 86, 89, 91, 307, 308, 935, 936, 937, 938, 838, 839, 840, 842, 939] (by decide +kernel)
set_option maxRecDepth 20000 in
theorem zz_in_wsL_law_r7 : ∀ w ∈ wsL_law_r7, w ∈ lw_tbl := zz_pl [940, 941, 309, 310, 311, 312, 83, 85, 313, 314, 60, 315, 316, 317, 318, 319, 320, 321, 322, 326, 327, 61, 328, 324] (by decide +kernel)
set_option maxRecDepth 20000 in
theorem zz_in_wsL_law_r8 : ∀ w ∈ wsL_law_r8, w ∈ lw_tbl := zz_pl [325, 329, 330, 331, 332, 946, 947, 948, 949, 950, 951, 952, 953, 955, 18, 956, 333, 334, 335, 336, 337, 338, 339, 340] (by decide +kernel)
set_option maxRecDepth 20000 in
theorem zz_in_wsL_law_r9 : ∀ w ∈ wsL_law_r9, w ∈ lw_tbl := zz_pl [342, 343, 344, 345, 346, 347, 348, 349, 350, 351, 352, 354, 355, 356, 357, 358, 359, 957, 958, 959, 960, 961, 963, 19] (by decide +kernel)
set_option maxRecDepth 20000 in
theorem zz_in_wsL_law_r10 : ∀ w ∈ wsL_law_r10, w ∈ lw_tbl := zz_pl [964, 965, 967, 20, 968, 360, 361, 362, 363, 364, 365, 366, 367, 969, 970, 971, 972, 368, 369, 370, 371, 372, 373, 374] (by decide +kernel)
set_option maxRecDepth 20000 in
theorem zz_in_wsL_law_r11 : ∀ w ∈ wsL_law_r11, w ∈ lw_tbl := zz_pl [375, 376, 377, 378, 379, 973, 974, 975, 976, 380, 381, 382, 383, 90, 384, 385, 386, 387, 942, 943, 944, 945, 388, 389] (by decide +kernel)
set_option maxRecDepth 20000 in
theorem zz_in_wsL_law_r12 : ∀ w ∈ wsL_law_r12, w ∈ lw_tbl := zz_pl [390, 391, 392, 393, 394, 395, 396, 977, 978, 979, 980, 397, 398, 399, 400, 401, 402, 403, 981, 982, 983, 984, 985, 987] (by decide +kernel)
set_option maxRecDepth 20000 in
theorem zz_in_wsL_law_r13 : ∀ w ∈ wsL_law_r13, w ∈ lw_tbl := zz_pl [21, 988, 404, 405, 406, 407, 408, 410, 0, 411, 266, 412, 413, 414, 415, 416, 417, 128, 989, 990, 991, 992, 848, 993] (by decide +kernel)
set_option maxRecDepth 20000 in
theorem zz_in_wsL_law_r14 : ∀ w ∈ wsL_law_r14, w ∈ lw_tbl := zz_pl [995, 22, 996, 834, 419, 420, 421, 422, 423, 424, 425, 426, 428, 429, 430, 431, 997, 998, 999, 1000, 1001, 1003, 23, 1004] (by decide +kernel)
set_option maxRecDepth 20000 in
theorem zz_in_wsL_law_r15 : ∀ w ∈ wsL_law_r15, w ∈ lw_tbl := zz_pl [433, 434, 435, 436, 437, 438, 439, 440, 1005, 1006, 1007, 1008, 442, 443, 444, 445, 446, 447, 448, 449, 450, 451, 452, 453] (by decide +kernel)
set_option maxRecDepth 20000 in
theorem zz_in_wsL_law_r16 : ∀ w ∈ wsL_law_r16, w ∈ lw_tbl := zz_pl [454, 1009, 1010, 1011, 1012, 455, 456, 457, 458, 1013, 1014, 1015, 1016, 459, 460, 461, 462, 133, 136, 1017, 1018, 1019, 1020, 851] (by decide +kernel)
set_option maxRecDepth 20000 in
theorem zz_in_wsL_law_r17 : ∀ w ∈ wsL_law_r17, w ∈ lw_tbl := zz_pl [852, 463, 464, 465, 466, 130, 467, 468, 469, 470, 471, 472, 473, 474, 475, 476, 477, 478, 479, 480, 132, 486, 487, 488] (by decide +kernel)
set_option maxRecDepth 20000 in
theorem zz_in_wsL_law_r18 : ∀ w ∈ wsL_law_r18, w ∈ lw_tbl := zz_pl [489, 490, 491, 135, 481, 482, 483, 484, 485, 1021, 1022, 1023, 1024, 1025, 1027, 24, 1028, 1029, 1031, 25, 1032, 1033, 1035, 26] (by decide +kernel)
set_option maxRecDepth 20000 in
theorem zz_in_wsL_law_r19 : ∀ w ∈ wsL_law_r19, w ∈ lw_tbl := zz_pl [1036, 1037, 1039, 27, 1040, 492, 493, 494, 495, 496, 498, 1, 499, 500, 501, 502, 503, 504, 506, 2, 507, 87, 508, 509] (by decide +kernel)
set_option maxRecDepth 20000 in
theorem zz_in_wsL_law_r20 : ∀ w ∈ wsL_law_r20, w ∈ lw_tbl := zz_pl [510, 511, 129, 131, 134, 513, 514, 516, 3, 517, 518, 520, 4, 521, 522, 523, 524, 525, 528, 529, 531, 5, 532, 533] (by decide +kernel)
set_option maxRecDepth 20000 in
theorem zz_in_wsL_law_r21 : ∀ w ∈ wsL_law_r21, w ∈ lw_tbl := zz_pl [534, 535, 536, 537, 538, 539, 77, 172, 80, 174, 541, 542, 543, 544, 546, 547, 548, 549, 550, 552, 6, 553, 554, 555] (by decide +kernel)
set_option maxRecDepth 20000 in
theorem zz_in_wsL_law_r22 : ∀ w ∈ wsL_law_r22, w ∈ lw_tbl := zz_pl [556, 557, 558, 560, 561, 562, 563, 564, 565, 566, 567, 1041, 1042, 1043, 1044, 1045, 1047, 28, 1048, 1049, 1051, 29, 1052, 1053] (by decide +kernel)
set_option maxRecDepth 20000 in
theorem zz_in_wsL_law_r23 : ∀ w ∈ wsL_law_r23, w ∈ lw_tbl := zz_pl [1055, 30, 1056, 857, 1057, 1059, 31, 1060, 856, 1061, 1063, 32, 1064, 1065, 1067, 33, 1068, 1069, 1070, 1072, 34, 1073, 1074, 1075] (by decide +kernel)
set_option maxRecDepth 20000 in
theorem zz_in_wsL_law_r24 : ∀ w ∈ wsL_law_r24, w ∈ lw_tbl := zz_pl [1076, 1077, 1079, 35, 1080, 1081, 1083, 36, 1084, 1085, 1086, 1087, 1088, 1089, 1090, 1091, 1092, 1093, 1094, 1096, 37, 1097, 568, 569] (by decide +kernel)
set_option maxRecDepth 20000 in
theorem zz_in_wsL_law_r25 : ∀ w ∈ wsL_law_r25, w ∈ lw_tbl := zz_pl [570, 571, 1098, 1099, 1100, 1101, 1102, 1104, 38, 1105, 572, 573, 574, 575, 576, 577, 578, 579, 580, 582, 583, 584, 585, 586] (by decide +kernel)
set_option maxRecDepth 20000 in
theorem zz_in_wsL_law_r26 : ∀ w ∈ wsL_law_r26, w ∈ lw_tbl := zz_pl [587, 588, 589, 590, 591, 593, 594, 596, 597, 599, 600, 1106, 1107, 1108, 1109, 1110, 1112, 39, 1113, 1114, 1116, 40, 1117, 1118] (by decide +kernel)
set_option maxRecDepth 20000 in
theorem zz_in_wsL_law_r27 : ∀ w ∈ wsL_law_r27, w ∈ lw_tbl := zz_pl [1120, 41, 1121, 1122, 1124, 42, 1125, 605, 606, 607, 608, 609, 610, 611, 612, 613, 1126, 1127, 1128, 1129, 614, 615, 616, 617] (by decide +kernel)
set_option maxRecDepth 20000 in
theorem zz_in_wsL_law_r28 : ∀ w ∈ wsL_law_r28, w ∈ lw_tbl := zz_pl [228, 618, 619, 620, 621, 227, 175, 173, 623, 624, 625, 626, 627, 630, 632, 7, 633, 231, 634, 636, 8, 637, 639, 1130] (by decide +kernel)
set_option maxRecDepth 20000 in
theorem zz_in_wsL_law_r29 : ∀ w ∈ wsL_law_r29, w ∈ lw_tbl := zz_pl [1131, 1132, 1133, 1134, 1136, 43, 1137, 1138, 1140, 44, 1141, 640, 641, 642, 643, 644, 1142, 1143, 1144, 1145, 645, 646, 647, 648] (by decide +kernel)
set_option maxRecDepth 20000 in
theorem zz_in_wsL_law_r30 : ∀ w ∈ wsL_law_r30, w ∈ lw_tbl := zz_pl [649, 650, 651, 652, 653, 654, 655, 658, 1146, 1147, 1148, 1149, 659, 660, 661, 662, 663, 664, 665, 666, 1150, 1151, 1152, 1153] (by decide +kernel)
set_option maxRecDepth 20000 in
theorem zz_in_wsL_law_r31 : ∀ w ∈ wsL_law_r31, w ∈ lw_tbl := zz_pl [667, 668, 669, 670, 1154, 1155, 1156, 1157, 671, 672, 673, 674, 248, 675, 676, 677, 678, 196, 203, 680, 681, 682, 683, 684] (by decide +kernel)
set_option maxRecDepth 20000 in
theorem zz_in_wsL_law_r32 : ∀ w ∈ wsL_law_r32, w ∈ lw_tbl := zz_pl [686, 9, 687, 689, 691, 10, 692, 694, 696, 11, 697, 698, 700, 12, 701, 702, 703, 705, 13, 706, 707, 708, 709, 710] (by decide +kernel)
set_option maxRecDepth 20000 in
theorem zz_in_wsL_law_r33 : ∀ w ∈ wsL_law_r33, w ∈ lw_tbl := zz_pl [711, 712, 713, 714, 202, 715, 717, 718, 719, 720, 722, 1158, 1159, 1160, 1161, 1175, 1162, 1164, 45, 1165, 1170, 1166, 1168, 46] (by decide +kernel)
set_option maxRecDepth 20000 in
theorem zz_in_wsL_law_r34 : ∀ w ∈ wsL_law_r34, w ∈ lw_tbl := zz_pl [1169, 1171, 1173, 47, 1174, 1176, 1178, 48, 1179, 1180, 1181, 1182, 723, 724, 725, 726, 727, 728, 729, 730, 1183, 1184, 1185, 1186] (by decide +kernel)
set_option maxRecDepth 20000 in
theorem zz_in_wsL_law_r35 : ∀ w ∈ wsL_law_r35, w ∈ lw_tbl := zz_pl [732, 733, 734, 735, 736, 737, 738, 739, 740, 741, 742, 743, 744, 1187, 1188, 1189, 1190, 745, 746, 747, 748, 197, 1191, 1192] (by decide +kernel)
set_option maxRecDepth 20000 in
theorem zz_in_wsL_law_r36 : ∀ w ∈ wsL_law_r36, w ∈ lw_tbl := zz_pl [1193, 1194, 749, 750, 751, 752, 753, 1195, 1196, 1197, 1198, 754, 755, 756, 757, 199, 758, 760, 14, 761, 762, 764, 15, 765] (by decide +kernel)
set_option maxRecDepth 20000 in
theorem zz_in_wsL_law_r37 : ∀ w ∈ wsL_law_r37, w ∈ lw_tbl := zz_pl [776, 777, 766, 767, 768, 769, 771, 16, 772, 773, 774, 775, 1199, 1200, 1201, 1202, 1203, 778, 779, 780, 781, 782, 784, 17] (by decide +kernel)
set_option maxRecDepth 20000 in
theorem zz_in_wsL_law_r38 : ∀ w ∈ wsL_law_r38, w ∈ lw_tbl := zz_pl [785, 1204, 1205, 1206, 1207, 1208, 1210, 49, 1211, 786, 787, 788, 789, 790, 791, 792, 793, 1212, 1213, 1214, 1215, 794, 795, 796] (by decide +kernel)
set_option maxRecDepth 20000 in
theorem zz_in_wsL_law_r39 : ∀ w ∈ wsL_law_r39, w ∈ lw_tbl := zz_pl [797, 263, 1216, 1217, 1218, 1219, 866, 798, 799, 800, 801, 802, 803, 1220, 1221, 1222, 1223, 804, 805, 806, 807, 78, 81, 1224] (by decide +kernel)
set_option maxRecDepth 20000 in
theorem zz_in_wsL_law_r40 : ∀ w ∈ wsL_law_r40, w ∈ lw_tbl := zz_pl [1225, 1226, 1227, 808, 809, 810, 811, 1228, 1229, 1230, 1231, 812, 813, 814, 815, 1232, 1233, 1234, 1235, 816, 817, 818, 819, 820] (by decide +kernel)
set_option maxRecDepth 20000 in
theorem zz_in_wsL_law_r41 : ∀ w ∈ wsL_law_r41, w ∈ lw_tbl := zz_pl [821, 822, 823, 824, 825, 826, 827, 1236, 1237, 1238, 1239, 1240, 1241] (by decide +kernel)
set_option maxRecDepth 20000 in
theorem zz_in_wsX70 : ∀ w ∈ wsX70, w ∈ lw_tbl := zz_pl [268, 270, 272, 274, 276, 278, 280, 282, 284, 286, 288, 290, 292] (by decide +kernel)
set_option maxRecDepth 20000 in
theorem zz_in_wsX80 : ∀ w ∈ wsX80, w ∈ lw_tbl := zz_pl [867, 869, 871, 873, 875, 877, 879, 881, 883, 885, 887, 889, 891, 893, 895, 897, 899, 901, 903, 905, 907, 909, 911, 913, 915, 917, 919, 921, 923, 925, 927, 929, 931] (by decide +kernel)
set_option maxRecDepth 20000 in
theorem zz_in_wsX00 : ∀ w ∈ wsX00, w ∈ lw_tbl := zz_pl [96, 98, 100, 102, 104, 106, 108, 110, 112, 114, 116, 118] (by decide +kernel)
set_option maxRecDepth 20000 in
theorem zz_in_wsX20 : ∀ w ∈ wsX20, w ∈ lw_tbl := zz_pl [139, 141, 143, 145, 147] (by decide +kernel)
set_option maxRecDepth 20000 in
theorem zz_in_wsX60 : ∀ w ∈ wsX60, w ∈ lw_tbl := zz_pl [159, 161, 163] (by decide +kernel)
set_option maxRecDepth 20000 in
theorem zz_in_wsX10 : ∀ w ∈ wsX10, w ∈ lw_tbl := zz_pl [179, 181, 183, 185, 187] (by decide +kernel)
set_option maxRecDepth 20000 in
theorem zz_in_wsX50 : ∀ w ∈ wsX50, w ∈ lw_tbl := zz_pl [206, 208, 210, 212, 214, 216, 218] (by decide +kernel)
set_option maxRecDepth 20000 in
theorem zz_in_wsX30 : ∀ w ∈ wsX30, w ∈ lw_tbl := zz_pl [232, 234, 236, 238] (by decide +kernel)
set_option maxRecDepth 20000 in
theorem zz_in_wsX40 : ∀ w ∈ wsX40, w ∈ lw_tbl := zz_pl [250, 252] (by decide +kernel)
theorem wsL_law_in : ∀ w ∈ wsL_law, w ∈ lw_tbl := (List.forall_mem_append.mpr ⟨(List.forall_mem_append.mpr ⟨(List.forall_mem_append.mpr ⟨(List.forall_mem_append.mpr ⟨(List.forall_mem_append.mpr ⟨(List.forall_mem_append.mpr ⟨(List.forall_mem_append.mpr ⟨(List.forall_mem_append.mpr ⟨(List.forall_mem_append.mpr ⟨(List.forall_mem_append.mpr ⟨(List.forall_mem_append.mpr ⟨zz_in_wsL_law_r1, (List.forall_mem_append.mpr ⟨zz_in_wsL_law_r2, (List.forall_mem_append.mpr ⟨zz_in_wsL_law_r3, (List.forall_mem_append.mpr ⟨zz_in_wsL_law_r4, (List.forall_mem_append.mpr ⟨zz_in_wsL_law_r5, (List.forall_mem_append.mpr ⟨zz_in_wsL_law_r6, (List.forall_mem_append.mpr ⟨zz_in_wsL_law_r7, (List.forall_mem_append.mpr ⟨zz_in_wsL_law_r8, (List.forall_mem_append.mpr ⟨zz_in_wsL_law_r9, (List.forall_mem_append.mpr ⟨zz_in_wsL_law_r10, (List.forall_mem_append.mpr ⟨zz_in_wsL_law_r11, (List.forall_mem_append.mpr ⟨zz_in_wsL_law_r12, (List.forall_mem_append.mpr ⟨zz_in_wsL_law_r13, (List.forall_mem_append.mpr ⟨zz_in_wsL_law_r14, (List.forall_mem_append.mpr ⟨zz_in_wsL_law_r15, (List.forall_mem_append.mpr ⟨zz_in_wsL_law_r16, (List.forall_mem_append.mpr ⟨zz_in_wsL_law_r17, (List.forall_mem_append.mpr ⟨zz_in_wsL_law_r18, (List.forall_mem_append.mpr ⟨zz_in_wsL_law_r19, (List.forall_mem_append.mpr ⟨zz_in_wsL_law_r20, (List.forall_mem_append.mpr ⟨zz_in_wsL_law_r21, (List.forall_mem_append.mpr ⟨zz_in_wsL_law_r22, (List.forall_mem_append.mpr ⟨zz_in_wsL_law_r23, (List.forall_mem_append.mpr ⟨zz_in_wsL_law_r24, (List.forall_mem_append.mpr ⟨zz_in_wsL_law_r25, (List.forall_mem_append.mpr ⟨zz_in_wsL_law_r26, (List.forall_mem_append.mpr ⟨zz_in_wsL_law_r27, (List.forall_mem_append.mpr ⟨zz_in_wsL_law_r28, (List.forall_mem_append.mpr ⟨zz_in_wsL_law_r29, (List.forall_mem_append.mpr ⟨zz_in_wsL_law_r30, (List.forall_mem_append.mpr ⟨zz_in_wsL_law_r31, (List.forall_mem_append.mpr ⟨zz_in_wsL_law_r32, (List.forall_mem_append.mpr ⟨zz_in_wsL_law_r33, (List.forall_mem_append.mpr ⟨zz_in_wsL_law_r34, (List.forall_mem_append.mpr ⟨zz_in_wsL_law_r35, (List.forall_mem_append.mpr ⟨zz_in_wsL_law_r36, (List.forall_mem_append.mpr ⟨zz_in_wsL_law_r37, (List.forall_mem_append.mpr ⟨zz_in_wsL_law_r38, (List.forall_mem_append.mpr ⟨zz_in_wsL_law_r39, (List.forall_mem_append.mpr ⟨zz_in_wsL_law_r40, zz_in_wsL_law_r41⟩)⟩)⟩)⟩)⟩)⟩)⟩)⟩)⟩)⟩)⟩)⟩)⟩)⟩)⟩)⟩)⟩)⟩)⟩)⟩)⟩)⟩)⟩)⟩)⟩)⟩)⟩)⟩)⟩)⟩)⟩)⟩)⟩)⟩)⟩)⟩)⟩)⟩)⟩)⟩), zz_in_wsX70⟩), zz_in_wsX80⟩), zz_in_wsX00⟩), zz_in_wsX20⟩), zz_in_wsX60⟩), zz_in_wsX10⟩), zz_in_wsX50⟩), zz_in_wsX30⟩), zz_in_wsX40⟩), fun _ h => absurd h List.not_mem_nil⟩)
theorem inlX0 : ∀ w ∈ wsX00, w ∈ wsL_law := fun _ h => List.mem_append_left _ (List.mem_append_left _ (List.mem_append_left _ (List.mem_append_left _ (List.mem_append_left _ (List.mem_append_left _ (List.mem_append_left _ (List.mem_append_right _ h)))))))
theorem inX0 : ∀ w ∈ wsX00, w ∈ lw_tbl := fun w h => wsL_law_in w (inlX0 w h)
theorem inlX1 : ∀ w ∈ wsX10, w ∈ wsL_law := fun _ h => List.mem_append_left _ (List.mem_append_left _ (List.mem_append_left _ (List.mem_append_left _ (List.mem_append_right _ h))))
theorem inX1 : ∀ w ∈ wsX10, w ∈ lw_tbl := fun w h => wsL_law_in w (inlX1 w h)
theorem inlX2 : ∀ w ∈ wsX20, w ∈ wsL_law := fun _ h => List.mem_append_left _ (List.mem_append_left _ (List.mem_append_left _ (List.mem_append_left _ (List.mem_append_left _ (List.mem_append_left _ (List.mem_append_right _ h))))))
theorem inX2 : ∀ w ∈ wsX20, w ∈ lw_tbl := fun w h => wsL_law_in w (inlX2 w h)
theorem inlX3 : ∀ w ∈ wsX30, w ∈ wsL_law := fun _ h => List.mem_append_left _ (List.mem_append_left _ (List.mem_append_right _ h))
theorem inX3 : ∀ w ∈ wsX30, w ∈ lw_tbl := fun w h => wsL_law_in w (inlX3 w h)
theorem inlX4 : ∀ w ∈ wsX40, w ∈ wsL_law := fun _ h => List.mem_append_left _ (List.mem_append_right _ h)
theorem inX4 : ∀ w ∈ wsX40, w ∈ lw_tbl := fun w h => wsL_law_in w (inlX4 w h)
theorem inlX5 : ∀ w ∈ wsX50, w ∈ wsL_law := fun _ h => List.mem_append_left _ (List.mem_append_left _ (List.mem_append_left _ (List.mem_append_right _ h)))
theorem inX5 : ∀ w ∈ wsX50, w ∈ lw_tbl := fun w h => wsL_law_in w (inlX5 w h)
theorem inlX6 : ∀ w ∈ wsX60, w ∈ wsL_law := fun _ h => List.mem_append_left _ (List.mem_append_left _ (List.mem_append_left _ (List.mem_append_left _ (List.mem_append_left _ (List.mem_append_right _ h)))))
theorem inX6 : ∀ w ∈ wsX60, w ∈ lw_tbl := fun w h => wsL_law_in w (inlX6 w h)
theorem inlX7 : ∀ w ∈ wsX70, w ∈ wsL_law := fun _ h => List.mem_append_left _ (List.mem_append_left _ (List.mem_append_left _ (List.mem_append_left _ (List.mem_append_left _ (List.mem_append_left _ (List.mem_append_left _ (List.mem_append_left _ (List.mem_append_left _ (List.mem_append_right _ h)))))))))
theorem inX7 : ∀ w ∈ wsX70, w ∈ lw_tbl := fun w h => wsL_law_in w (inlX7 w h)
theorem inlX8 : ∀ w ∈ wsX80, w ∈ wsL_law := fun _ h => List.mem_append_left _ (List.mem_append_left _ (List.mem_append_left _ (List.mem_append_left _ (List.mem_append_left _ (List.mem_append_left _ (List.mem_append_left _ (List.mem_append_left _ (List.mem_append_right _ h))))))))
theorem inX8 : ∀ w ∈ wsX80, w ∈ lw_tbl := fun w h => wsL_law_in w (inlX8 w h)
theorem inJ6 : ∀ w ∈ wsJ60, w ∈ lw_tbl := by decide +kernel
theorem inJ9 : ∀ w ∈ wsJ90, w ∈ lw_tbl := by decide +kernel
