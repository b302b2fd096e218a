theorem ggX0_codePicture_X0_beginPicture : GoodIn wsX0_codePicture wsX0_beginPicture := goodIn_r _ [13, 14, 15, 6, 16, 17, 18, 19, 20, 1, 21, 22, 23, 24, 25, 26, 27, 28, 29, 30, 31, 32, 33, 34, 35, 36, 37, 38, 39, 40, 41, 42, 43, 44, 45, 46, 47, 48, 49, 50, 51, 52, 53, 54, 55, 56, 57, 58, 59, 60, 61, 62, 63, 64, 65, 66, 67, 68, 69, 70, 71, 72, 73, 74, 75, 76, 77, 78, 79, 80, 81, 82, 83, 1009, 1010, 1011, 1012, 1013, 1014, 1015, 1016, 1017, 1018, 1019, 1020, 1021, 1022, 1023, 1024, 1025, 1026, 1027, 1028, 1029, 1050, 1051, 1052, 1053, 1054, 1055, 1056, 1057, 1058, 1059, 1060, 1061, 1062, 1063, 1064, 1065, 1066, 1067, 1068, 1069, 1070, 1071, 1072, 1073, 1074, 1075, 1076, 1077, 1078, 1079, 1080, 1081, 1082, 1083, 1084, 1085, 1086, 1087, 1088, 1089, 1090, 1091, 1092, 1093, 1094, 1095, 1096, 1097, 1098, 1099, 1100, 1101, 1102, 1103, 1104, 1105, 1106, 1107, 1108] (by decide +kernel) (by decide +kernel)
set_option maxRecDepth 20000 in
theorem gX0_codePicture_X0_beginPicture : GoodIn wsX0_codePicture (wsV RX0 200 RX0 yX0_beginPicture wsX0_beginPicture) := goodIn_app (goodIn_of _ (by decide +kernel)) ggX0_codePicture_X0_beginPicture
set_option maxRecDepth 20000 in
theorem ggX0_codePicture_X0_endPicture : GoodIn wsX0_codePicture wsX0_endPicture := goodIn_r _ [887, 6, 24, 1, 888, 8, 889, 890, 16, 17, 26, 891, 19, 892, 25, 20, 893, 894, 895, 896, 897, 898, 899, 900, 346, 347, 46, 348, 71, 72, 901, 902, 903, 904, 905, 906, 907, 908, 909, 319, 92, 320, 910, 322, 323, 911, 912, 913, 914, 915, 916, 917, 918, 58, 919, 920, 921, 922, 59, 923, 924, 925, 926, 927, 928, 929, 930, 931, 932, 933, 934, 935, 936, 937, 938, 735, 485, 736, 737, 457, 458, 459, 939, 940, 941, 942, 943, 365, 215, 366, 944, 945, 946, 947, 546, 547, 948, 949, 950, 951, 952, 953, 34, 954, 143, 955, 956, 957, 958, 959, 960, 961, 962, 38, 157, 159, 963, 964, 227, 228, 229, 230, 231, 965, 966, 967, 968, 36, 37, 969, 970, 971, 972, 973, 974, 975, 976, 977, 978, 979, 160, 161, 162, 980, 981, 982, 983, 984, 985, 986, 987, 988, 989, 990, 991, 992, 993, 994, 995, 996, 997, 998, 999, 1000, 1001, 1002, 1003, 1004, 1005, 1006, 1007, 1008, 1009, 1010, 1011, 1012, 1013, 1014, 1015, 1016, 1017, 1018, 1019, 1020, 1021, 1022, 1023, 1024, 1025, 1026, 1027, 1028, 1029, 1050, 1051, 1052, 1053, 1054, 1055, 1056, 1057, 1058, 1059, 1060, 1061, 1062, 1063, 1064, 1065, 1066, 1067, 1068, 1069, 1070, 1071, 1072, 1073, 1091, 1092, 1093, 1094, 1095, 1096, 1097, 1098, 1099, 1100, 1101, 1102, 1103, 1104, 1105, 1106, 1107, 1108, 1074, 1075, 1076, 1077, 1078, 1079, 1080, 1081, 1082, 1083, 1084, 1085, 1086, 1087, 1088, 1089, 1090, 1127, 1128, 1129, 1130, 1131, 1132, 1133] (by decide +kernel) (by decide +kernel)
set_option maxRecDepth 20000 in
theorem gX0_codePicture_X0_endPicture : GoodIn wsX0_codePicture (wsV RX0 249 RX0 yX0_endPicture wsX0_endPicture) := goodIn_app (goodIn_of _ (by decide +kernel)) ggX0_codePicture_X0_endPicture
theorem ggX0_codePicture_X0_beginTry : GoodIn wsX0_codePicture wsX0_beginTry := goodIn_r _ [87, 6, 16, 17, 88, 1, 24, 89, 90, 91, 92, 93, 94, 95, 96, 97, 98, 99, 100, 101, 102, 103, 104, 105, 106, 29, 107, 108, 109, 110, 111, 112, 113, 114, 115, 116, 117, 118, 119, 120, 121, 122, 123, 124, 125, 46, 126, 1009, 1010, 1011, 1012, 1013, 1014, 1015, 1016, 1017, 1018, 1019, 1020, 1021, 1022, 1023, 1024, 1025, 1026, 1027, 1028, 1029, 1050, 1051, 1052, 1053, 1054, 1055, 1056, 1057, 1058, 1059, 1060, 1061, 1062, 1063, 1064, 1065, 1066, 1067, 1068, 1069, 1070, 1071, 1072, 1073, 1109, 1110, 1111, 1112, 1091, 1092, 1093, 1094, 1095, 1096, 1097, 1098, 1099, 1100, 1101, 1102, 1103, 1104, 1105, 1106, 1107, 1108] (by decide +kernel) (by decide +kernel)
set_option maxRecDepth 20000 in
theorem gX0_codePicture_X0_beginTry : GoodIn wsX0_codePicture (wsV RX0 203 RX0 yX0_beginTry wsX0_beginTry) := goodIn_app (goodIn_of _ (by decide +kernel)) ggX0_codePicture_X0_beginTry
set_option maxRecDepth 20000 in
theorem ggX0_codePicture_X0_isSliceEdge : GoodIn wsX0_codePicture wsX0_isSliceEdge := goodIn_r _ [130, 1, 1009, 1010, 1011, 1012, 1013, 1014, 1015, 1016, 1017, 1018, 1019, 1020, 1021, 1022, 1023, 1024, 1025, 1026, 1027, 1028, 1029] (by decide +kernel) (by decide +kernel)
set_option maxRecDepth 20000 in
theorem gX0_codePicture_X0_isSliceEdge : GoodIn wsX0_codePicture (wsV RX0 206 RX0 yX0_isSliceEdge wsX0_isSliceEdge) := goodIn_app (goodIn_of _ (by decide +kernel)) ggX0_codePicture_X0_isSliceEdge
set_option maxRecDepth 20000 in
theorem ggX0_codePicture_X0_drawStep : GoodIn wsX0_codePicture wsX0_drawStep := goodIn_r _ [728, 6, 16, 17, 7, 1, 253, 254, 255, 12, 256, 257, 5, 258, 457, 458, 459, 1009, 1010, 1011, 1012, 1013, 1014, 1015, 1016, 1017, 1018, 1019, 1020, 1021, 1022, 1023, 1024, 1025, 1026, 1027, 1028, 1029, 1050, 1051, 1052, 1053, 1054, 1055, 1056, 1057, 1058, 1059, 1060, 1061, 1062, 1063, 1064, 1065, 1066, 1067, 1068, 1069, 1070, 1071, 1072, 1073] (by decide +kernel) (by decide +kernel)
set_option maxRecDepth 20000 in
theorem gX0_codePicture_X0_drawStep : GoodIn wsX0_codePicture (wsV RX0 225 RX0 yX0_drawStep wsX0_drawStep) := goodIn_app (goodIn_of _ (by decide +kernel)) ggX0_codePicture_X0_drawStep
set_option maxRecDepth 20000 in
theorem ggX0_codePicture_X0_build : GoodIn wsX0_codePicture wsX0_build := goodIn_r _ [732, 6, 7, 182, 472, 22, 733, 283, 1, 734, 735, 485, 736, 737, 457, 458, 459, 284, 285, 286, 92, 287, 288, 289, 290, 291, 94, 292, 100, 95, 293, 294, 295, 296, 297, 738, 739, 740, 741, 487, 545, 742, 218, 219, 220, 552, 553, 554, 488, 714, 715, 716, 743, 744, 745, 746, 504, 314, 106, 29, 107, 108, 109, 110, 111, 112, 113, 710, 711, 712, 713, 606, 607, 608, 609, 610, 611, 612, 613, 614, 717, 718, 719, 720, 615, 616, 617, 618, 585, 586, 587, 588, 589, 590, 591, 46, 592, 57, 59, 593, 125, 126, 594, 595, 596, 597, 489, 598, 599, 600, 601, 483, 484, 486, 490, 491, 492, 493, 319, 320, 494, 322, 323, 495, 496, 497, 498, 499, 500, 501, 502, 503, 505, 506, 507, 508, 509, 510, 511, 512, 513, 514, 515, 516, 517, 518, 519, 520, 521, 522, 523, 524, 525, 526, 527, 528, 529, 530, 531, 532, 533, 534, 535, 536, 537, 538, 359, 360, 539, 362, 363, 364, 365, 215, 366, 540, 251, 229, 252, 541, 542, 543, 544, 546, 547, 602, 603, 604, 605, 747, 748, 749, 750, 751, 666, 660, 661, 673, 672, 674, 662, 663, 664, 665, 667, 115, 116, 668, 669, 670, 671, 675, 676, 677, 678, 679, 680, 681, 682, 683, 752, 753, 754, 755, 756, 757, 758, 759, 692, 688, 689, 690, 691, 693, 28, 30, 694, 695, 696, 697, 698, 699, 700, 701, 760, 761, 762, 12, 763, 315, 316, 317, 318, 321, 632, 633, 634, 635, 636, 637, 638, 639, 640, 641, 642, 643, 644, 645, 646, 647, 648, 649, 650, 651, 652, 653, 654, 655, 656, 657, 658, 659, 684, 685, 686, 687, 764, 765, 766, 767, 768, 769, 770, 771, 772, 773, 774, 775, 776, 777, 778, 779, 16, 17, 24, 452, 780, 453, 454, 781, 405, 406, 407, 337, 338, 408, 409, 410, 411, 121, 123, 379, 380, 381, 382, 375, 376, 377, 378, 383, 384, 385, 386, 387, 388, 389, 390, 1009, 1010, 1011, 1012, 1013, 1014, 1015, 1016, 1017, 1018, 1019, 1020, 1021, 1022, 1023, 1024, 1025, 1026, 1027, 1028, 1029, 1050, 1051, 1052, 1053, 1054, 1055, 1056, 1057, 1058, 1059, 1060, 1061, 1062, 1063, 1064, 1065, 1066, 1067, 1068, 1069, 1091, 1092, 1093, 1094, 1095, 1096, 1097, 1098, 1099, 1100, 1101, 1102, 1103, 1104, 1105, 1106, 1107, 1108, 1113, 1114, 1115, 1116, 1117, 1118, 1119, 1120, 1121, 1122, 1123, 1124, 1125, 1126, 1109, 1110, 1111, 1112, 1070, 1071, 1072, 1073] (by decide +kernel) (by decide +kernel)
set_option maxRecDepth 20000 in
theorem gX0_codePicture_X0_build : GoodIn wsX0_codePicture (wsV RX0 228 RX0 yX0_build wsX0_build) := goodIn_app (goodIn_of _ (by decide +kernel)) ggX0_codePicture_X0_build
set_option maxRecDepth 20000 in
theorem ggX0_codePicture_X0_writeBlock : GoodIn wsX0_codePicture wsX0_writeBlock := goodIn_r _ [785, 6, 16, 17, 7, 182, 2, 137, 472, 786, 398, 283, 787, 788, 789, 12, 790, 225, 191, 192, 169, 193, 171, 194, 195, 196, 197, 198, 199, 200, 201, 202, 172, 173, 174, 175, 176, 177, 203, 204, 29, 205, 206, 207, 208, 209, 210, 211, 212, 213, 214, 215, 216, 217, 218, 219, 220, 221, 222, 223, 224, 183, 184, 185, 186, 187, 188, 189, 190, 791, 792, 793, 794, 795, 796, 797, 798, 270, 271, 272, 273, 275, 276, 277, 278, 799, 800, 801, 802, 624, 625, 626, 92, 627, 318, 319, 320, 321, 322, 323, 288, 289, 290, 291, 94, 292, 100, 95, 628, 629, 630, 631, 297, 101, 1009, 1010, 1011, 1012, 1013, 1014, 1015, 1016, 1017, 1018, 1019, 1020, 1021, 1022, 1023, 1024, 1025, 1026, 1027, 1028, 1029, 1050, 1051, 1052, 1053, 1054, 1055, 1056, 1057, 1058, 1059, 1060, 1061, 1062, 1063, 1064, 1065, 1066, 1067, 1068, 1069, 1070, 1071, 1072, 1073, 1030, 1031, 1032, 1033, 1034, 1035, 1036, 1037, 1038, 1039, 1040, 1041, 1042, 1043, 1044, 1045, 1046, 1047, 1048, 1049, 1113, 1114, 1115, 1116, 1117, 1118, 1119, 1120, 1121, 1122, 1123, 1124, 1125, 1126, 1091, 1092, 1093, 1094, 1095, 1096, 1097, 1098, 1099, 1100, 1101, 1102, 1103, 1104, 1105, 1106, 1107, 1108] (by decide +kernel) (by decide +kernel)
set_option maxRecDepth 20000 in
theorem gX0_codePicture_X0_writeBlock : GoodIn wsX0_codePicture (wsV RX0 231 RX0 yX0_writeBlock wsX0_writeBlock) := goodIn_app (goodIn_of _ (by decide +kernel)) ggX0_codePicture_X0_writeBlock
set_option maxRecDepth 20000 in
theorem ggX0_codePicture_X0_writeMotion : GoodIn wsX0_codePicture wsX0_writeMotion := goodIn_r _ [806, 6, 16, 17, 7, 328, 329, 2, 24, 452, 451, 450, 464, 444, 413, 414, 92, 415, 416, 417, 418, 419, 420, 421, 422, 423, 424, 425, 426, 427, 428, 429, 430, 431, 432, 433, 434, 435, 455, 125, 46, 126, 807, 808, 809, 169, 810, 190, 191, 192, 193, 171, 194, 195, 196, 197, 198, 199, 200, 201, 202, 172, 173, 174, 175, 176, 177, 203, 204, 29, 205, 206, 207, 208, 209, 210, 211, 212, 213, 214, 215, 216, 217, 218, 219, 220, 221, 222, 223, 224, 187, 188, 189, 259, 260, 261, 262, 263, 264, 265, 1009, 1010, 1011, 1012, 1013, 1014, 1015, 1016, 1017, 1018, 1019, 1020, 1021, 1022, 1023, 1024, 1025, 1026, 1027, 1028, 1029, 1050, 1051, 1052, 1053, 1054, 1055, 1056, 1057, 1058, 1059, 1060, 1061, 1062, 1063, 1064, 1065, 1066, 1067, 1068, 1069, 1070, 1071, 1072, 1073, 1091, 1092, 1093, 1094, 1095, 1096, 1097, 1098, 1099, 1100, 1101, 1102, 1103, 1104, 1105, 1106, 1107, 1108, 1030, 1031, 1032, 1033, 1034, 1035, 1036, 1037, 1038, 1039, 1040, 1041, 1042, 1043, 1044, 1045, 1046, 1047, 1048, 1049] (by decide +kernel) (by decide +kernel)
set_option maxRecDepth 20000 in
theorem gX0_codePicture_X0_writeMotion : GoodIn wsX0_codePicture (wsV RX0 234 RX0 yX0_writeMotion wsX0_writeMotion) := goodIn_app (goodIn_of _ (by decide +kernel)) ggX0_codePicture_X0_writeMotion
set_option maxRecDepth 20000 in
theorem ggX0_codePicture_X0_writePattern : GoodIn wsX0_codePicture wsX0_writePattern := goodIn_r _ [814, 6, 7, 815, 2, 135, 787, 788, 789, 12, 790, 183, 184, 185, 169, 186, 187, 188, 189, 190, 191, 192, 193, 171, 194, 195, 196, 197, 198, 199, 200, 201, 202, 172, 173, 174, 175, 176, 177, 203, 204, 29, 205, 206, 207, 208, 209, 210, 211, 212, 213, 214, 215, 216, 217, 218, 219, 220, 221, 222, 223, 224, 259, 260, 261, 262, 263, 264, 265, 1009, 1010, 1011, 1012, 1013, 1014, 1015, 1016, 1017, 1018, 1019, 1020, 1021, 1022, 1023, 1024, 1025, 1026, 1027, 1028, 1029, 1050, 1051, 1052, 1053, 1054, 1055, 1056, 1057, 1058, 1059, 1060, 1061, 1062, 1063, 1064, 1065, 1066, 1067, 1068, 1069, 1030, 1031, 1032, 1033, 1034, 1035, 1036, 1037, 1038, 1039, 1040, 1041, 1042, 1043, 1044, 1045, 1046, 1047, 1048, 1049] (by decide +kernel) (by decide +kernel)
set_option maxRecDepth 20000 in
theorem gX0_codePicture_X0_writePattern : GoodIn wsX0_codePicture (wsV RX0 237 RX0 yX0_writePattern wsX0_writePattern) := goodIn_app (goodIn_of _ (by decide +kernel)) ggX0_codePicture_X0_writePattern
set_option maxRecDepth 20000 in
theorem ggX0_codePicture_X0_writeLevels : GoodIn wsX0_codePicture wsX0_writeLevels := goodIn_r _ [819, 6, 820, 7, 2, 821, 822, 823, 92, 824, 318, 319, 320, 321, 322, 323, 288, 289, 290, 291, 94, 292, 100, 95, 825, 826, 827, 828, 102, 829, 115, 116, 830, 831, 832, 169, 833, 834, 835, 836, 837, 838, 839, 365, 215, 366, 840, 841, 842, 843, 844, 845, 846, 847, 848, 849, 190, 191, 192, 193, 171, 194, 195, 196, 197, 198, 199, 200, 201, 202, 172, 173, 174, 175, 176, 177, 203, 204, 29, 205, 206, 207, 208, 209, 210, 211, 212, 213, 214, 216, 217, 218, 219, 220, 221, 222, 223, 224, 850, 851, 852, 853, 854, 855, 856, 857, 858, 859, 860, 861, 862, 1009, 1010, 1011, 1012, 1013, 1014, 1015, 1016, 1017, 1018, 1019, 1020, 1021, 1022, 1023, 1024, 1025, 1026, 1027, 1028, 1029, 1050, 1051, 1052, 1053, 1054, 1055, 1056, 1057, 1058, 1059, 1060, 1061, 1062, 1063, 1064, 1065, 1066, 1067, 1068, 1069, 1091, 1092, 1093, 1094, 1095, 1096, 1097, 1098, 1099, 1100, 1101, 1102, 1103, 1104, 1105, 1106, 1107, 1108, 1030, 1031, 1032, 1033, 1034, 1035, 1036, 1037, 1038, 1039, 1040, 1041, 1042, 1043, 1044, 1045, 1046, 1047, 1048, 1049] (by decide +kernel) (by decide +kernel)
set_option maxRecDepth 20000 in
theorem gX0_codePicture_X0_writeLevels : GoodIn wsX0_codePicture (wsV RX0 240 RX0 yX0_writeLevels wsX0_writeLevels) := goodIn_app (goodIn_of _ (by decide +kernel)) ggX0_codePicture_X0_writeLevels
set_option maxRecDepth 20000 in
theorem ggX0_codePicture_X9_endBlock : GoodIn wsX0_codePicture wsX9_endBlock := goodIn_r _ [866, 100, 95, 104, 335, 336, 94, 121, 334, 867, 124, 125, 46, 126, 1050, 1051, 1052, 1053, 1054, 1055, 1056, 1057, 1058, 1059, 1060, 1061, 1062, 1063, 1064, 1065, 1066, 1067, 1068, 1069, 1070, 1071, 1072, 1073, 1091, 1092, 1093, 1094, 1095, 1096, 1097, 1098, 1099, 1100, 1101, 1102, 1103, 1104, 1105, 1106, 1107, 1108] (by decide +kernel) (by decide +kernel)
set_option maxRecDepth 20000 in
theorem gX0_codePicture_X9_endBlock : GoodIn wsX0_codePicture (wsV RX0 243 RX9 yX9_endBlock wsX9_endBlock) := goodIn_app (goodIn_of _ (by decide +kernel)) ggX0_codePicture_X9_endBlock
set_option maxRecDepth 20000 in
theorem ggX0_codePicture_X0_endSlice : GoodIn wsX0_codePicture wsX0_endSlice := goodIn_r _ [871, 6, 182, 2, 137, 127, 128, 129, 12, 130, 1, 872, 796, 797, 169, 798, 196, 197, 171, 221, 222, 223, 224, 173, 199, 200, 201, 202, 172, 174, 175, 176, 177, 203, 204, 29, 205, 206, 207, 208, 209, 210, 211, 212, 213, 214, 215, 216, 217, 218, 219, 220, 183, 184, 185, 186, 187, 188, 189, 190, 191, 192, 193, 194, 195, 198, 873, 874, 875, 876, 877, 270, 271, 272, 273, 878, 879, 880, 881, 882, 883, 1009, 1010, 1011, 1012, 1013, 1014, 1015, 1016, 1017, 1018, 1019, 1020, 1021, 1022, 1023, 1024, 1025, 1026, 1027, 1028, 1029, 1050, 1051, 1052, 1053, 1054, 1055, 1056, 1057, 1058, 1059, 1060, 1061, 1062, 1063, 1064, 1065, 1066, 1067, 1068, 1069, 1030, 1031, 1032, 1033, 1034, 1035, 1036, 1037, 1038, 1039, 1040, 1041, 1042, 1043, 1044, 1045, 1046, 1047, 1048, 1049] (by decide +kernel) (by decide +kernel)
set_option maxRecDepth 20000 in
theorem gX0_codePicture_X0_endSlice : GoodIn wsX0_codePicture (wsV RX0 246 RX0 yX0_endSlice wsX0_endSlice) := goodIn_app (goodIn_of _ (by decide +kernel)) ggX0_codePicture_X0_endSlice
set_option maxRecDepth 20000 in
theorem ggX0_codePicture_X0_chooseByCosts : GoodIn wsX0_codePicture wsX0_chooseByCosts := goodIn_r _ [469, 6, 16, 17, 470, 471, 472, 22, 7, 283, 473, 474, 475, 12, 476, 453, 454, 1, 456, 380, 381, 92, 382, 318, 319, 320, 321, 322, 323, 288, 289, 290, 291, 94, 292, 100, 95, 375, 376, 377, 378, 121, 383, 384, 385, 386, 123, 337, 338, 387, 388, 389, 390, 477, 478, 479, 480, 481, 482, 483, 484, 485, 486, 487, 488, 489, 490, 491, 492, 493, 494, 495, 496, 497, 498, 499, 500, 501, 502, 503, 504, 505, 506, 507, 508, 509, 510, 511, 512, 513, 514, 515, 516, 517, 518, 519, 520, 521, 522, 523, 524, 525, 526, 527, 528, 529, 530, 531, 532, 533, 534, 535, 536, 537, 538, 359, 360, 539, 362, 363, 364, 365, 215, 366, 540, 251, 229, 252, 541, 542, 543, 544, 545, 546, 458, 547, 548, 549, 550, 551, 552, 553, 554, 555, 556, 557, 558, 559, 560, 561, 562, 563, 264, 169, 265, 564, 188, 189, 565, 566, 567, 187, 568, 569, 570, 571, 572, 573, 574, 575, 576, 577, 578, 579, 580, 218, 219, 220, 581, 582, 583, 584, 330, 331, 332, 333, 334, 335, 336, 339, 340, 341, 342, 122, 343, 344, 345, 346, 347, 46, 348, 71, 72, 349, 350, 351, 352, 57, 124, 125, 126, 353, 354, 355, 356, 357, 358, 361, 367, 368, 369, 370, 371, 372, 373, 374, 379, 391, 392, 393, 585, 586, 587, 588, 589, 590, 591, 592, 59, 593, 594, 595, 596, 597, 598, 599, 600, 601, 284, 285, 286, 287, 293, 294, 295, 296, 297, 311, 312, 313, 602, 603, 604, 605, 606, 607, 608, 609, 610, 611, 612, 613, 614, 615, 616, 617, 618, 619, 620, 621, 622, 623, 97, 98, 99, 101, 102, 103, 104, 105, 106, 29, 107, 108, 109, 110, 111, 112, 113, 114, 115, 116, 117, 118, 119, 120, 315, 316, 317, 624, 625, 626, 627, 628, 629, 630, 631, 308, 309, 310, 632, 633, 634, 635, 636, 637, 638, 639, 640, 641, 642, 643, 644, 645, 646, 647, 648, 649, 650, 651, 652, 653, 654, 655, 656, 657, 658, 659, 660, 661, 662, 663, 664, 665, 666, 667, 668, 669, 670, 671, 672, 673, 674, 675, 676, 677, 678, 679, 680, 681, 682, 683, 684, 685, 686, 687, 688, 689, 690, 691, 692, 693, 28, 30, 694, 695, 696, 697, 698, 699, 700, 701, 702, 703, 704, 705, 450, 444, 413, 414, 415, 416, 417, 418, 419, 420, 421, 422, 423, 424, 425, 426, 427, 428, 429, 430, 431, 432, 433, 434, 435, 445, 437, 438, 439, 460, 461, 462, 463, 464, 465, 441, 442, 443, 706, 707, 708, 709, 305, 306, 307, 710, 711, 712, 713, 714, 715, 716, 717, 718, 719, 720, 721, 722, 723, 724, 1009, 1010, 1011, 1012, 1013, 1014, 1015, 1016, 1017, 1018, 1019, 1020, 1021, 1022, 1023, 1024, 1025, 1026, 1027, 1028, 1029, 1050, 1051, 1052, 1053, 1054, 1055, 1056, 1057, 1058, 1059, 1060, 1061, 1062, 1063, 1064, 1065, 1066, 1067, 1068, 1069, 1070, 1071, 1072, 1073, 1091, 1092, 1093, 1094, 1095, 1096, 1097, 1098, 1099, 1100, 1101, 1102, 1103, 1104, 1105, 1106, 1107, 1108, 1113, 1114, 1115, 1116, 1117, 1118, 1119, 1120, 1121, 1122, 1123, 1124, 1125, 1126, 1109, 1110, 1111, 1112] (by decide +kernel) (by decide +kernel)
set_option maxRecDepth 20000 in
theorem gX0_codePicture_X0_chooseByCosts : GoodIn wsX0_codePicture (wsV RX0 222 RX0 yX0_chooseByCosts wsX0_chooseByCosts) := goodIn_app (goodIn_of _ (by decide +kernel)) ggX0_codePicture_X0_chooseByCosts
set_option maxRecDepth 20000 in
theorem ggX0_codePicture_X0_chooseByChance : GoodIn wsX0_codePicture wsX0_chooseByChance := goodIn_r _ [282, 6, 16, 17, 7, 283, 253, 254, 255, 12, 256, 257, 5, 258, 284, 285, 286, 92, 287, 288, 289, 290, 291, 94, 292, 100, 95, 293, 294, 295, 296, 297, 298, 299, 300, 301, 302, 303, 304, 305, 306, 307, 308, 309, 310, 311, 312, 313, 314, 106, 29, 107, 108, 109, 110, 111, 112, 113, 315, 316, 317, 318, 319, 320, 321, 322, 323, 324, 325, 326, 327, 328, 329, 330, 331, 332, 333, 334, 335, 336, 337, 338, 339, 340, 341, 342, 122, 123, 343, 344, 345, 346, 347, 46, 348, 71, 72, 349, 350, 351, 352, 57, 124, 125, 126, 353, 354, 355, 356, 357, 358, 359, 360, 361, 362, 363, 364, 365, 215, 366, 367, 368, 369, 370, 121, 371, 372, 373, 374, 375, 376, 377, 378, 379, 380, 381, 382, 383, 384, 385, 386, 387, 388, 389, 390, 391, 392, 393, 394, 395, 396, 397, 398, 399, 118, 119, 120, 105, 400, 401, 402, 403, 404, 405, 406, 407, 408, 409, 410, 411, 412, 413, 414, 415, 416, 417, 418, 419, 420, 421, 422, 423, 424, 425, 426, 427, 428, 429, 430, 431, 432, 433, 434, 435, 436, 437, 438, 439, 440, 441, 442, 443, 444, 445, 446, 447, 448, 449, 450, 451, 24, 452, 453, 454, 455, 456, 457, 458, 459, 460, 461, 462, 463, 464, 465, 1009, 1010, 1011, 1012, 1013, 1014, 1015, 1016, 1017, 1018, 1019, 1020, 1021, 1022, 1023, 1024, 1025, 1026, 1027, 1028, 1029, 1050, 1051, 1052, 1053, 1054, 1055, 1056, 1057, 1058, 1059, 1060, 1061, 1062, 1063, 1064, 1065, 1066, 1067, 1068, 1069, 1070, 1071, 1072, 1073, 1091, 1092, 1093, 1094, 1095, 1096, 1097, 1098, 1099, 1100, 1101, 1102, 1103, 1104, 1105, 1106, 1107, 1108, 1109, 1110, 1111, 1112] (by decide +kernel) (by decide +kernel)
set_option maxRecDepth 20000 in
theorem gX0_codePicture_X0_chooseByChance : GoodIn wsX0_codePicture (wsV RX0 219 RX0 yX0_chooseByChance wsX0_chooseByChance) := goodIn_app (goodIn_of _ (by decide +kernel)) ggX0_codePicture_X0_chooseByChance
set_option maxRecDepth 20000 in
theorem ggX0_codePicture_X0_beginSlice : GoodIn wsX0_codePicture wsX0_beginSlice := goodIn_r _ [134, 6, 16, 17, 135, 136, 19, 2, 137, 138, 139, 140, 34, 141, 142, 143, 144, 145, 146, 147, 148, 149, 36, 37, 150, 151, 152, 38, 153, 154, 155, 156, 157, 158, 159, 160, 161, 162, 163, 164, 165, 166, 167, 168, 169, 170, 171, 172, 173, 174, 175, 176, 177, 1009, 1010, 1011, 1012, 1013, 1014, 1015, 1016, 1017, 1018, 1019, 1020, 1021, 1022, 1023, 1024, 1025, 1026, 1027, 1028, 1029, 1050, 1051, 1052, 1053, 1054, 1055, 1056, 1057, 1058, 1059, 1060, 1061, 1062, 1063, 1064, 1065, 1066, 1067, 1068, 1069, 1070, 1071, 1072, 1073, 1030, 1031, 1032, 1033, 1034, 1035, 1036, 1037, 1038, 1039, 1040, 1041, 1042, 1043, 1044, 1045, 1046, 1047, 1048, 1049, 1074, 1075, 1076, 1077, 1078, 1079, 1080, 1081, 1082, 1083, 1084, 1085, 1086, 1087, 1088, 1089, 1090, 1091, 1092, 1093, 1094, 1095, 1096, 1097, 1098, 1099, 1100, 1101, 1102, 1103, 1104, 1105, 1106, 1107, 1108] (by decide +kernel) (by decide +kernel)
set_option maxRecDepth 20000 in
theorem gX0_codePicture_X0_beginSlice : GoodIn wsX0_codePicture (wsV RX0 210 RX0 yX0_beginSlice wsX0_beginSlice) := goodIn_app (goodIn_of _ (by decide +kernel)) ggX0_codePicture_X0_beginSlice
set_option maxRecDepth 20000 in
theorem ggX0_codePicture_X0_writeHeader : GoodIn wsX0_codePicture wsX0_writeHeader := goodIn_r _ [181, 6, 16, 17, 2, 1, 182, 183, 184, 185, 169, 186, 187, 188, 189, 190, 191, 192, 193, 171, 194, 195, 196, 197, 198, 199, 200, 201, 202, 172, 173, 174, 175, 176, 177, 203, 204, 29, 205, 206, 207, 208, 209, 210, 211, 212, 213, 214, 215, 216, 217, 218, 219, 220, 221, 222, 223, 224, 225, 226, 227, 228, 229, 230, 231, 232, 233, 234, 12, 235, 236, 237, 238, 239, 240, 241, 242, 243, 244, 245, 246, 247, 248, 249, 250, 251, 252, 253, 254, 255, 256, 257, 5, 258, 259, 260, 261, 262, 263, 264, 265, 266, 267, 268, 269, 270, 271, 272, 273, 274, 28, 30, 275, 276, 277, 278, 1009, 1010, 1011, 1012, 1013, 1014, 1015, 1016, 1017, 1018, 1019, 1020, 1021, 1022, 1023, 1024, 1025, 1026, 1027, 1028, 1029, 1050, 1051, 1052, 1053, 1054, 1055, 1056, 1057, 1058, 1059, 1060, 1061, 1062, 1063, 1064, 1065, 1066, 1067, 1068, 1069, 1070, 1071, 1072, 1073, 1030, 1031, 1032, 1033, 1034, 1035, 1036, 1037, 1038, 1039, 1040, 1041, 1042, 1043, 1044, 1045, 1046, 1047, 1048, 1049] (by decide +kernel) (by decide +kernel)
set_option maxRecDepth 20000 in
theorem gX0_codePicture_X0_writeHeader : GoodIn wsX0_codePicture (wsV RX0 213 RX0 yX0_writeHeader wsX0_writeHeader) := goodIn_app (goodIn_of _ (by decide +kernel)) ggX0_codePicture_X0_writeHeader
set_option maxRecDepth 20000 in
theorem dX0_codePicture_0 : decode cX0_codePicture 0 = .ok (.aload_n 0, 1) := by decide +kernel
theorem dX0_codePicture_1 : decode cX0_codePicture 1 = .ok (.getfield 23, 3) := by decide +kernel
theorem dX0_codePicture_4 : decode cX0_codePicture 4 = .ok (.iconst 0, 1) := by decide +kernel
theorem dX0_codePicture_5 : decode cX0_codePicture 5 = .ok (.iaload, 1) := by decide +kernel
theorem dX0_codePicture_6 : decode cX0_codePicture 6 = .ok (.aload_n 0, 1) := by decide +kernel
theorem dX0_codePicture_7 : decode cX0_codePicture 7 = .ok (.getfield 23, 3) := by decide +kernel
theorem dX0_codePicture_10 : decode cX0_codePicture 10 = .ok (.iconst 1, 1) := by decide +kernel
theorem dX0_codePicture_11 : decode cX0_codePicture 11 = .ok (.iaload, 1) := by decide +kernel
theorem dX0_codePicture_12 : decode cX0_codePicture 12 = .ok (.imul, 1) := by decide +kernel
theorem dX0_codePicture_13 : decode cX0_codePicture 13 = .ok (.istore_n 3, 1) := by decide +kernel
theorem dX0_codePicture_14 : decode cX0_codePicture 14 = .ok (.aload_n 0, 1) := by decide +kernel
theorem dX0_codePicture_15 : decode cX0_codePicture 15 = .ok (.getfield 29, 3) := by decide +kernel
theorem dX0_codePicture_18 : decode cX0_codePicture 18 = .ok (.getfield 125, 3) := by decide +kernel
theorem dX0_codePicture_21 : decode cX0_codePicture 21 = .ok (.istore 4, 2) := by decide +kernel
theorem dX0_codePicture_23 : decode cX0_codePicture 23 = .ok (.aload_n 0, 1) := by decide +kernel
theorem dX0_codePicture_24 : decode cX0_codePicture 24 = .ok (.getfield 29, 3) := by decide +kernel
theorem dX0_codePicture_27 : decode cX0_codePicture 27 = .ok (.getfield 128, 3) := by decide +kernel
theorem dX0_codePicture_30 : decode cX0_codePicture 30 = .ok (.istore 5, 2) := by decide +kernel
theorem dX0_codePicture_32 : decode cX0_codePicture 32 = .ok (.aload_n 0, 1) := by decide +kernel
theorem dX0_codePicture_33 : decode cX0_codePicture 33 = .ok (.getfield 113, 3) := by decide +kernel
theorem dX0_codePicture_36 : decode cX0_codePicture 36 = .ok (.istore 6, 2) := by decide +kernel
theorem dX0_codePicture_38 : decode cX0_codePicture 38 = .ok (.aload_n 0, 1) := by decide +kernel
theorem dX0_codePicture_39 : decode cX0_codePicture 39 = .ok (.getfield 23, 3) := by decide +kernel
theorem dX0_codePicture_42 : decode cX0_codePicture 42 = .ok (.iconst 3, 1) := by decide +kernel
theorem dX0_codePicture_43 : decode cX0_codePicture 43 = .ok (.iload_n 2, 1) := by decide +kernel
theorem dX0_codePicture_44 : decode cX0_codePicture 44 = .ok (.iconst 2, 1) := by decide +kernel
theorem dX0_codePicture_45 : decode cX0_codePicture 45 = .ok (.if_icmp .ne 7, 3) := by decide +kernel
theorem dX0_codePicture_48 : decode cX0_codePicture 48 = .ok (.iconst 0, 1) := by decide +kernel
theorem dX0_codePicture_49 : decode cX0_codePicture 49 = .ok (.goto 12, 3) := by decide +kernel
theorem dX0_codePicture_52 : decode cX0_codePicture 52 = .ok (.iload_n 2, 1) := by decide +kernel
theorem dX0_codePicture_53 : decode cX0_codePicture 53 = .ok (.ifCond .ne 7, 3) := by decide +kernel
theorem dX0_codePicture_56 : decode cX0_codePicture 56 = .ok (.iconst 1, 1) := by decide +kernel
theorem dX0_codePicture_57 : decode cX0_codePicture 57 = .ok (.goto 4, 3) := by decide +kernel
theorem dX0_codePicture_60 : decode cX0_codePicture 60 = .ok (.iconst 2, 1) := by decide +kernel
theorem dX0_codePicture_61 : decode cX0_codePicture 61 = .ok (.iadd, 1) := by decide +kernel
theorem dX0_codePicture_62 : decode cX0_codePicture 62 = .ok (.iaload, 1) := by decide +kernel
theorem dX0_codePicture_63 : decode cX0_codePicture 63 = .ok (.istore 7, 2) := by decide +kernel
theorem dX0_codePicture_65 : decode cX0_codePicture 65 = .ok (.iconst 0, 1) := by decide +kernel
theorem dX0_codePicture_66 : decode cX0_codePicture 66 = .ok (.istore 8, 2) := by decide +kernel
theorem dX0_codePicture_68 : decode cX0_codePicture 68 = .ok (.iconst 0, 1) := by decide +kernel
theorem dX0_codePicture_69 : decode cX0_codePicture 69 = .ok (.istore 9, 2) := by decide +kernel
theorem dX0_codePicture_71 : decode cX0_codePicture 71 = .ok (.aload_n 0, 1) := by decide +kernel
theorem dX0_codePicture_72 : decode cX0_codePicture 72 = .ok (.iload_n 1, 1) := by decide +kernel
theorem dX0_codePicture_73 : decode cX0_codePicture 73 = .ok (.iload_n 2, 1) := by decide +kernel
theorem dX0_codePicture_74 : decode cX0_codePicture 74 = .ok (.invokevirtual 200, 3) := by decide +kernel
theorem dX0_codePicture_77 : decode cX0_codePicture 77 = .ok (.iload 9, 2) := by decide +kernel
theorem dX0_codePicture_79 : decode cX0_codePicture 79 = .ok (.bipush 9, 2) := by decide +kernel
theorem dX0_codePicture_81 : decode cX0_codePicture 81 = .ok (.if_icmp .ge 273, 3) := by decide +kernel
theorem dX0_codePicture_84 : decode cX0_codePicture 84 = .ok (.iinc 9 1, 3) := by decide +kernel
theorem dX0_codePicture_87 : decode cX0_codePicture 87 = .ok (.aload_n 0, 1) := by decide +kernel
theorem dX0_codePicture_88 : decode cX0_codePicture 88 = .ok (.getfield 29, 3) := by decide +kernel
theorem dX0_codePicture_91 : decode cX0_codePicture 91 = .ok (.iload 4, 2) := by decide +kernel
theorem dX0_codePicture_93 : decode cX0_codePicture 93 = .ok (.putfield 125, 3) := by decide +kernel
theorem dX0_codePicture_96 : decode cX0_codePicture 96 = .ok (.aload_n 0, 1) := by decide +kernel
theorem dX0_codePicture_97 : decode cX0_codePicture 97 = .ok (.getfield 29, 3) := by decide +kernel
theorem dX0_codePicture_100 : decode cX0_codePicture 100 = .ok (.iload 5, 2) := by decide +kernel
theorem dX0_codePicture_102 : decode cX0_codePicture 102 = .ok (.putfield 128, 3) := by decide +kernel
theorem dX0_codePicture_105 : decode cX0_codePicture 105 = .ok (.aload_n 0, 1) := by decide +kernel
theorem dX0_codePicture_106 : decode cX0_codePicture 106 = .ok (.iload 6, 2) := by decide +kernel
theorem dX0_codePicture_108 : decode cX0_codePicture 108 = .ok (.putfield 113, 3) := by decide +kernel
theorem dX0_codePicture_111 : decode cX0_codePicture 111 = .ok (.aload_n 0, 1) := by decide +kernel
theorem dX0_codePicture_112 : decode cX0_codePicture 112 = .ok (.iload 7, 2) := by decide +kernel
theorem dX0_codePicture_114 : decode cX0_codePicture 114 = .ok (.invokevirtual 203, 3) := by decide +kernel
theorem dX0_codePicture_117 : decode cX0_codePicture 117 = .ok (.iconst 0, 1) := by decide +kernel
theorem dX0_codePicture_118 : decode cX0_codePicture 118 = .ok (.istore 10, 2) := by decide +kernel
theorem dX0_codePicture_120 : decode cX0_codePicture 120 = .ok (.iload 10, 2) := by decide +kernel
theorem dX0_codePicture_122 : decode cX0_codePicture 122 = .ok (.iload_n 3, 1) := by decide +kernel
theorem dX0_codePicture_123 : decode cX0_codePicture 123 = .ok (.if_icmp .ge 141, 3) := by decide +kernel
theorem dX0_codePicture_126 : decode cX0_codePicture 126 = .ok (.aload_n 0, 1) := by decide +kernel
theorem dX0_codePicture_127 : decode cX0_codePicture 127 = .ok (.iload 10, 2) := by decide +kernel
theorem dX0_codePicture_129 : decode cX0_codePicture 129 = .ok (.invokevirtual 206, 3) := by decide +kernel
theorem dX0_codePicture_132 : decode cX0_codePicture 132 = .ok (.ifCond .eq 13, 3) := by decide +kernel
theorem dX0_codePicture_135 : decode cX0_codePicture 135 = .ok (.aload_n 0, 1) := by decide +kernel
theorem dX0_codePicture_136 : decode cX0_codePicture 136 = .ok (.iload 10, 2) := by decide +kernel
theorem dX0_codePicture_138 : decode cX0_codePicture 138 = .ok (.invokevirtual 210, 3) := by decide +kernel
theorem dX0_codePicture_141 : decode cX0_codePicture 141 = .ok (.aload_n 0, 1) := by decide +kernel
theorem dX0_codePicture_142 : decode cX0_codePicture 142 = .ok (.invokevirtual 213, 3) := by decide +kernel
theorem dX0_codePicture_145 : decode cX0_codePicture 145 = .ok (.aload_n 0, 1) := by decide +kernel
theorem dX0_codePicture_146 : decode cX0_codePicture 146 = .ok (.getfield 23, 3) := by decide +kernel
theorem dX0_codePicture_149 : decode cX0_codePicture 149 = .ok (.bipush 17, 2) := by decide +kernel
theorem dX0_codePicture_151 : decode cX0_codePicture 151 = .ok (.iaload, 1) := by decide +kernel
theorem dX0_codePicture_152 : decode cX0_codePicture 152 = .ok (.iconst 1, 1) := by decide +kernel
theorem dX0_codePicture_153 : decode cX0_codePicture 153 = .ok (.if_icmp .ne 22, 3) := by decide +kernel
theorem dX0_codePicture_156 : decode cX0_codePicture 156 = .ok (.aload_n 0, 1) := by decide +kernel
theorem dX0_codePicture_157 : decode cX0_codePicture 157 = .ok (.getfield 36, 3) := by decide +kernel
theorem dX0_codePicture_160 : decode cX0_codePicture 160 = .ok (.getfield 216, 3) := by decide +kernel
theorem dX0_codePicture_163 : decode cX0_codePicture 163 = .ok (.bipush 8, 2) := by decide +kernel
theorem dX0_codePicture_165 : decode cX0_codePicture 165 = .ok (.iload 10, 2) := by decide +kernel
theorem dX0_codePicture_167 : decode cX0_codePicture 167 = .ok (.imul, 1) := by decide +kernel
theorem dX0_codePicture_168 : decode cX0_codePicture 168 = .ok (.iconst 0, 1) := by decide +kernel
theorem dX0_codePicture_169 : decode cX0_codePicture 169 = .ok (.iadd, 1) := by decide +kernel
theorem dX0_codePicture_170 : decode cX0_codePicture 170 = .ok (.iconst 2, 1) := by decide +kernel
theorem dX0_codePicture_171 : decode cX0_codePicture 171 = .ok (.iastore, 1) := by decide +kernel
theorem dX0_codePicture_172 : decode cX0_codePicture 172 = .ok (.goto 29, 3) := by decide +kernel
theorem dX0_codePicture_175 : decode cX0_codePicture 175 = .ok (.aload_n 0, 1) := by decide +kernel
theorem dX0_codePicture_176 : decode cX0_codePicture 176 = .ok (.getfield 23, 3) := by decide +kernel
theorem dX0_codePicture_179 : decode cX0_codePicture 179 = .ok (.bipush 8, 2) := by decide +kernel
theorem dX0_codePicture_181 : decode cX0_codePicture 181 = .ok (.iaload, 1) := by decide +kernel
theorem dX0_codePicture_182 : decode cX0_codePicture 182 = .ok (.iconst 1, 1) := by decide +kernel
theorem dX0_codePicture_183 : decode cX0_codePicture 183 = .ok (.if_icmp .ne 12, 3) := by decide +kernel
theorem dX0_codePicture_186 : decode cX0_codePicture 186 = .ok (.aload_n 0, 1) := by decide +kernel
theorem dX0_codePicture_187 : decode cX0_codePicture 187 = .ok (.iload 10, 2) := by decide +kernel
theorem dX0_codePicture_189 : decode cX0_codePicture 189 = .ok (.invokevirtual 219, 3) := by decide +kernel
theorem dX0_codePicture_192 : decode cX0_codePicture 192 = .ok (.goto 9, 3) := by decide +kernel
theorem dX0_codePicture_195 : decode cX0_codePicture 195 = .ok (.aload_n 0, 1) := by decide +kernel
theorem dX0_codePicture_196 : decode cX0_codePicture 196 = .ok (.iload 10, 2) := by decide +kernel
theorem dX0_codePicture_198 : decode cX0_codePicture 198 = .ok (.invokevirtual 222, 3) := by decide +kernel
theorem dX0_codePicture_201 : decode cX0_codePicture 201 = .ok (.aload_n 0, 1) := by decide +kernel
theorem dX0_codePicture_202 : decode cX0_codePicture 202 = .ok (.iload 10, 2) := by decide +kernel
theorem dX0_codePicture_204 : decode cX0_codePicture 204 = .ok (.invokevirtual 225, 3) := by decide +kernel
theorem dX0_codePicture_207 : decode cX0_codePicture 207 = .ok (.istore 11, 2) := by decide +kernel
theorem dX0_codePicture_209 : decode cX0_codePicture 209 = .ok (.aload_n 0, 1) := by decide +kernel
theorem dX0_codePicture_210 : decode cX0_codePicture 210 = .ok (.iload 10, 2) := by decide +kernel
theorem dX0_codePicture_212 : decode cX0_codePicture 212 = .ok (.iload 11, 2) := by decide +kernel
theorem dX0_codePicture_214 : decode cX0_codePicture 214 = .ok (.invokevirtual 228, 3) := by decide +kernel
theorem dX0_codePicture_217 : decode cX0_codePicture 217 = .ok (.aload_n 0, 1) := by decide +kernel
theorem dX0_codePicture_218 : decode cX0_codePicture 218 = .ok (.iload 10, 2) := by decide +kernel
theorem dX0_codePicture_220 : decode cX0_codePicture 220 = .ok (.invokevirtual 231, 3) := by decide +kernel
theorem dX0_codePicture_223 : decode cX0_codePicture 223 = .ok (.aload_n 0, 1) := by decide +kernel
theorem dX0_codePicture_224 : decode cX0_codePicture 224 = .ok (.iload 10, 2) := by decide +kernel
theorem dX0_codePicture_226 : decode cX0_codePicture 226 = .ok (.invokevirtual 234, 3) := by decide +kernel
theorem dX0_codePicture_229 : decode cX0_codePicture 229 = .ok (.aload_n 0, 1) := by decide +kernel
theorem dX0_codePicture_230 : decode cX0_codePicture 230 = .ok (.iload 10, 2) := by decide +kernel
theorem dX0_codePicture_232 : decode cX0_codePicture 232 = .ok (.iload 11, 2) := by decide +kernel
theorem dX0_codePicture_234 : decode cX0_codePicture 234 = .ok (.invokevirtual 237, 3) := by decide +kernel
theorem dX0_codePicture_237 : decode cX0_codePicture 237 = .ok (.aload_n 0, 1) := by decide +kernel
theorem dX0_codePicture_238 : decode cX0_codePicture 238 = .ok (.iload 10, 2) := by decide +kernel
theorem dX0_codePicture_240 : decode cX0_codePicture 240 = .ok (.invokevirtual 240, 3) := by decide +kernel
theorem dX0_codePicture_243 : decode cX0_codePicture 243 = .ok (.aload_n 0, 1) := by decide +kernel
theorem dX0_codePicture_244 : decode cX0_codePicture 244 = .ok (.getfield 36, 3) := by decide +kernel
theorem dX0_codePicture_247 : decode cX0_codePicture 247 = .ok (.iload 10, 2) := by decide +kernel
theorem dX0_codePicture_249 : decode cX0_codePicture 249 = .ok (.invokevirtual 243, 3) := by decide +kernel
theorem dX0_codePicture_252 : decode cX0_codePicture 252 = .ok (.aload_n 0, 1) := by decide +kernel
theorem dX0_codePicture_253 : decode cX0_codePicture 253 = .ok (.iload 10, 2) := by decide +kernel
theorem dX0_codePicture_255 : decode cX0_codePicture 255 = .ok (.invokevirtual 246, 3) := by decide +kernel
theorem dX0_codePicture_258 : decode cX0_codePicture 258 = .ok (.iinc 10 1, 3) := by decide +kernel
theorem dX0_codePicture_261 : decode cX0_codePicture 261 = .ok (.goto (-141), 3) := by decide +kernel
theorem dX0_codePicture_264 : decode cX0_codePicture 264 = .ok (.bipush 8, 2) := by decide +kernel
theorem dX0_codePicture_266 : decode cX0_codePicture 266 = .ok (.aload_n 0, 1) := by decide +kernel
theorem dX0_codePicture_267 : decode cX0_codePicture 267 = .ok (.getfield 29, 3) := by decide +kernel
theorem dX0_codePicture_270 : decode cX0_codePicture 270 = .ok (.getfield 125, 3) := by decide +kernel
theorem dX0_codePicture_273 : decode cX0_codePicture 273 = .ok (.iload 4, 2) := by decide +kernel
theorem dX0_codePicture_275 : decode cX0_codePicture 275 = .ok (.isub, 1) := by decide +kernel
theorem dX0_codePicture_276 : decode cX0_codePicture 276 = .ok (.iconst 4, 1) := by decide +kernel
theorem dX0_codePicture_277 : decode cX0_codePicture 277 = .ok (.aload_n 0, 1) := by decide +kernel
theorem dX0_codePicture_278 : decode cX0_codePicture 278 = .ok (.getfield 29, 3) := by decide +kernel
theorem dX0_codePicture_281 : decode cX0_codePicture 281 = .ok (.getfield 128, 3) := by decide +kernel
theorem dX0_codePicture_284 : decode cX0_codePicture 284 = .ok (.iload 5, 2) := by decide +kernel
theorem dX0_codePicture_286 : decode cX0_codePicture 286 = .ok (.isub, 1) := by decide +kernel
theorem dX0_codePicture_287 : decode cX0_codePicture 287 = .ok (.imul, 1) := by decide +kernel
theorem dX0_codePicture_288 : decode cX0_codePicture 288 = .ok (.isub, 1) := by decide +kernel
theorem dX0_codePicture_289 : decode cX0_codePicture 289 = .ok (.imul, 1) := by decide +kernel
theorem dX0_codePicture_290 : decode cX0_codePicture 290 = .ok (.istore 8, 2) := by decide +kernel
theorem dX0_codePicture_292 : decode cX0_codePicture 292 = .ok (.aload_n 0, 1) := by decide +kernel
theorem dX0_codePicture_293 : decode cX0_codePicture 293 = .ok (.getfield 23, 3) := by decide +kernel
theorem dX0_codePicture_296 : decode cX0_codePicture 296 = .ok (.bipush 16, 2) := by decide +kernel
theorem dX0_codePicture_298 : decode cX0_codePicture 298 = .ok (.iaload, 1) := by decide +kernel
theorem dX0_codePicture_299 : decode cX0_codePicture 299 = .ok (.ifCond .eq 55, 3) := by decide +kernel
theorem dX0_codePicture_302 : decode cX0_codePicture 302 = .ok (.iload 8, 2) := by decide +kernel
theorem dX0_codePicture_304 : decode cX0_codePicture 304 = .ok (.aload_n 0, 1) := by decide +kernel
theorem dX0_codePicture_305 : decode cX0_codePicture 305 = .ok (.getfield 23, 3) := by decide +kernel
theorem dX0_codePicture_308 : decode cX0_codePicture 308 = .ok (.bipush 16, 2) := by decide +kernel
theorem dX0_codePicture_310 : decode cX0_codePicture 310 = .ok (.iaload, 1) := by decide +kernel
theorem dX0_codePicture_311 : decode cX0_codePicture 311 = .ok (.aload_n 0, 1) := by decide +kernel
theorem dX0_codePicture_312 : decode cX0_codePicture 312 = .ok (.getfield 116, 3) := by decide +kernel
theorem dX0_codePicture_315 : decode cX0_codePicture 315 = .ok (.iadd, 1) := by decide +kernel
theorem dX0_codePicture_316 : decode cX0_codePicture 316 = .ok (.if_icmp .le 38, 3) := by decide +kernel
theorem dX0_codePicture_319 : decode cX0_codePicture 319 = .ok (.iload 7, 2) := by decide +kernel
theorem dX0_codePicture_321 : decode cX0_codePicture 321 = .ok (.bipush 51, 2) := by decide +kernel
theorem dX0_codePicture_323 : decode cX0_codePicture 323 = .ok (.if_icmp .ne 6, 3) := by decide +kernel
theorem dX0_codePicture_326 : decode cX0_codePicture 326 = .ok (.goto 28, 3) := by decide +kernel
theorem dX0_codePicture_329 : decode cX0_codePicture 329 = .ok (.iload 7, 2) := by decide +kernel
theorem dX0_codePicture_331 : decode cX0_codePicture 331 = .ok (.bipush 6, 2) := by decide +kernel
theorem dX0_codePicture_333 : decode cX0_codePicture 333 = .ok (.iadd, 1) := by decide +kernel
theorem dX0_codePicture_334 : decode cX0_codePicture 334 = .ok (.bipush 51, 2) := by decide +kernel
theorem dX0_codePicture_336 : decode cX0_codePicture 336 = .ok (.if_icmp .le 8, 3) := by decide +kernel
theorem dX0_codePicture_339 : decode cX0_codePicture 339 = .ok (.bipush 51, 2) := by decide +kernel
theorem dX0_codePicture_341 : decode cX0_codePicture 341 = .ok (.goto 8, 3) := by decide +kernel
theorem dX0_codePicture_344 : decode cX0_codePicture 344 = .ok (.iload 7, 2) := by decide +kernel
theorem dX0_codePicture_346 : decode cX0_codePicture 346 = .ok (.bipush 6, 2) := by decide +kernel
theorem dX0_codePicture_348 : decode cX0_codePicture 348 = .ok (.iadd, 1) := by decide +kernel
theorem dX0_codePicture_349 : decode cX0_codePicture 349 = .ok (.istore 7, 2) := by decide +kernel
theorem dX0_codePicture_351 : decode cX0_codePicture 351 = .ok (.goto (-274), 3) := by decide +kernel
theorem dX0_codePicture_354 : decode cX0_codePicture 354 = .ok (.aload_n 0, 1) := by decide +kernel
theorem dX0_codePicture_355 : decode cX0_codePicture 355 = .ok (.iload 8, 2) := by decide +kernel
theorem dX0_codePicture_357 : decode cX0_codePicture 357 = .ok (.iload 7, 2) := by decide +kernel
theorem dX0_codePicture_359 : decode cX0_codePicture 359 = .ok (.iload 9, 2) := by decide +kernel
theorem dX0_codePicture_361 : decode cX0_codePicture 361 = .ok (.invokevirtual 249, 3) := by decide +kernel
theorem dX0_codePicture_364 : decode cX0_codePicture 364 = .ok (.return_, 1) := by decide +kernel
noncomputable def FX0_codePicture (G : GG) (M : DD) (a : Nat) (p0 : Int32) (p1 : Int32) : Option (NN × DD) :=
  dr (xt G []) 13 ((M.2 a 1)) fun b2 =>
  chk (¬ (((0 : Int32)) < 0 ∨ (xt G []).2.2 b2 ≤ ((0 : Int32)).toNatClampNeg)) <|
  ltt (M.1 b2 ((0 : Int32)).toNatClampNeg) fun x3 =>
  chk (¬ (((1 : Int32)) < 0 ∨ (xt G []).2.2 b2 ≤ ((1 : Int32)).toNatClampNeg)) <|
  ltt (M.1 b2 ((1 : Int32)).toNatClampNeg) fun x4 =>
  ltt ((x3 * x4)) fun x5 =>
  dr (xt G []) 10 ((M.2 a 2)) fun b6 =>
  ltt (M.1 b6 1) fun x7 =>
  ltt (M.1 b6 2) fun x8 =>
  ltt (M.1 a 14) fun x9 =>
  bnd (if p1 = ((2 : Int32)) then (some ((0 : Int32))) else
  (bnd (if p1 = ((0 : Int32)) then (some ((1 : Int32))) else
  (some ((2 : Int32)))) fun (y126 : Int32) =>
  some (y126))) fun (y10 : Int32) =>
  ltt ((((3 : Int32)) + y10)) fun x11 =>
  chk (¬ (x11 < 0 ∨ (xt G []).2.2 b2 ≤ x11.toNatClampNeg)) <|
  ltt (M.1 b2 x11.toNatClampNeg) fun x12 =>
  bnd (FX0_beginPicture (xt G []) M a p0 p1) fun y13 =>
  app y13.1 <|
  ltt ([] ++ y13.1) fun L15 =>
  bnd (itrA (fun (s19 : NN × Int32 × Int32 × Int32 × DD) => ((if ((9 : Int32)) ≤ s19.2.2.2.1 then (some ([], .inr ((s19.2.1, s19.2.2.1, s19.2.2.2.1, s19.2.2.2.2)))) else
  (ltt (s19.2.2.2.1 + (1 : Int32)) fun x30 =>
  dr (xt G s19.1) 10 ((s19.2.2.2.2.2 a 2)) fun b31 =>
  ltt (uI s19.2.2.2.2 b31 1 x7) fun M32 =>
  dr (xt G s19.1) 10 ((M32.2 a 2)) fun b33 =>
  ltt (uI M32 b33 2 x8) fun M34 =>
  ltt (uI M34 a 14 x9) fun M35 =>
  bnd (FX0_beginTry (xt G s19.1) M35 a s19.2.1) fun y36 =>
  bnd (itrA (fun (s38 : NN × Int32 × DD) => ((if x5 ≤ s38.2.1 then (some ([], .inr ((s38.2.1, s38.2.2)))) else
  (bnd (FX0_isSliceEdge (xt G s38.1) s38.2.2 a s38.2.1) fun y68 =>
  bnd (if y68.2 = ((0 : Int32)) then (some ([], y68.1)) else
  (bnd (FX0_beginSlice (xt G s38.1) y68.1 a s38.2.1) fun y119 =>
  bnd (FX0_writeHeader (xt G s38.1) y119 a) fun y120 =>
  app y120.1 <|
  ltt (s38.1 ++ y120.1) fun L122 =>
  some ([], y120.2))) fun (y69 : NN × DD) =>
  app y69.1 <|
  ltt (s38.1 ++ y69.1) fun L71 =>
  dr (xt G L71) 13 ((y69.2.2 a 1)) fun b73 =>
  chk (¬ (((17 : Int32)) < 0 ∨ (xt G L71).2.2 b73 ≤ ((17 : Int32)).toNatClampNeg)) <|
  ltt (y69.2.1 b73 ((17 : Int32)).toNatClampNeg) fun x74 =>
  bnd (if x74 = ((1 : Int32)) then (dr (xt G L71) 9 ((y69.2.2 a 3)) fun b112 =>
  ltt ((((8 : Int32)) * s38.2.1)) fun x113 =>
  ltt ((x113 + ((0 : Int32)))) fun x114 =>
  dr (xt G L71) 13 ((y69.2.2 b112 6)) fun b115 =>
  chk (¬ (x114 < 0 ∨ (xt G L71).2.2 b115 ≤ x114.toNatClampNeg)) <|
  ltt (uI y69.2 b115 x114.toNatClampNeg ((2 : Int32))) fun M116 =>
  some (M116)) else
  (chk (¬ (((8 : Int32)) < 0 ∨ (xt G L71).2.2 b73 ≤ ((8 : Int32)).toNatClampNeg)) <|
  ltt (y69.2.1 b73 ((8 : Int32)).toNatClampNeg) fun x107 =>
  bnd (if x107 = ((1 : Int32)) then (bnd (FX0_chooseByChance (xt G L71) y69.2 a s38.2.1) fun y111 =>
  some (y111)) else
  (bnd (FX0_chooseByCosts (xt G L71) y69.2 a s38.2.1) fun y110 =>
  some (y110))) fun (y108 : DD) =>
  some (y108))) fun (y75 : DD) =>
  bnd (FX0_drawStep (xt G L71) y75 a s38.2.1) fun y76 =>
  bnd (FX0_build (xt G L71) y76.1 a s38.2.1 y76.2) fun y77 =>
  bnd (FX0_writeBlock (xt G L71) y77 a s38.2.1) fun y78 =>
  app y78.1 <|
  ltt (L71 ++ y78.1) fun L80 =>
  bnd (FX0_writeMotion (xt G L80) y78.2 a s38.2.1) fun y83 =>
  app y83.1 <|
  ltt (L80 ++ y83.1) fun L85 =>
  bnd (FX0_writePattern (xt G L85) y83.2 a s38.2.1 y76.2) fun y88 =>
  app y88.1 <|
  ltt (L85 ++ y88.1) fun L90 =>
  bnd (FX0_writeLevels (xt G L90) y88.2 a s38.2.1) fun y93 =>
  app y93.1 <|
  ltt (L90 ++ y93.1) fun L95 =>
  dr (xt G L95) 9 ((y93.2.2 a 3)) fun b98 =>
  bnd (FX9_endBlock (xt G L95) y93.2 b98 s38.2.1) fun y99 =>
  bnd (FX0_endSlice (xt G L95) y99 a s38.2.1) fun y100 =>
  app y100.1 <|
  ltt (L95 ++ y100.1) fun L102 =>
  ltt (s38.2.1 + (1 : Int32)) fun x105 =>
  some ([], .inl (L102, (x105, y100.2))))) : Option (NN × ((NN × Int32 × DD) ⊕ (Int32 × DD))))) 1000000 (s19.1, ((0 : Int32), y36))) fun (y37 : NN × Int32 × DD) =>
  app y37.1 <|
  ltt (s19.1 ++ y37.1) fun L40 =>
  dr (xt G L40) 10 ((y37.2.2.2 a 2)) fun b42 =>
  ltt (y37.2.2.1 b42 1) fun x43 =>
  ltt ((x43 - x7)) fun x44 =>
  ltt (y37.2.2.1 b42 2) fun x45 =>
  ltt ((x45 - x8)) fun x46 =>
  ltt ((((4 : Int32)) * x46)) fun x47 =>
  ltt ((x44 - x47)) fun x48 =>
  ltt ((((8 : Int32)) * x48)) fun x49 =>
  dr (xt G L40) 13 ((y37.2.2.2 a 1)) fun b50 =>
  chk (¬ (((16 : Int32)) < 0 ∨ (xt G L40).2.2 b50 ≤ ((16 : Int32)).toNatClampNeg)) <|
  ltt (y37.2.2.1 b50 ((16 : Int32)).toNatClampNeg) fun x51 =>
  if x51 = ((0 : Int32)) then (some ([], .inr ((s19.2.1, x49, x30, y37.2.2)))) else
  (chk (¬ (((16 : Int32)) < 0 ∨ (xt G L40).2.2 b50 ≤ ((16 : Int32)).toNatClampNeg)) <|
  ltt (y37.2.2.1 b50 ((16 : Int32)).toNatClampNeg) fun x53 =>
  ltt (y37.2.2.1 a 15) fun x54 =>
  ltt ((x53 + x54)) fun x55 =>
  if x49 ≤ x55 then (some ([], .inr ((s19.2.1, x49, x30, y37.2.2)))) else
  (if s19.2.1 = ((51 : Int32)) then (some ([], .inr ((s19.2.1, x49, x30, y37.2.2)))) else
  (ltt ((s19.2.1 + ((6 : Int32)))) fun x58 =>
  bnd (if x58 ≤ ((51 : Int32)) then (ltt ((s19.2.1 + ((6 : Int32)))) fun x61 =>
  some (x61)) else
  (some ((51 : Int32)))) fun (y59 : Int32) =>
  some ([], .inl (L40, (y59, x49, x30, y37.2.2)))))))) : Option (NN × ((NN × Int32 × Int32 × Int32 × DD) ⊕ (Int32 × Int32 × Int32 × DD))))) 1000000 (L15, (x12, (0 : Int32), (0 : Int32), y13.2))) fun (y18 : NN × Int32 × Int32 × Int32 × DD) =>
  app y18.1 <|
  ltt (L15 ++ y18.1) fun L21 =>
  bnd (FX0_endPicture (xt G L21) y18.2.2.2.2 a y18.2.2.1 y18.2.1 y18.2.2.2.1) fun y23 =>
  some ([], y23)
set_option maxHeartbeats 4000000 in
set_option maxRecDepth 100000 in
theorem kX0_codePicture (l : Launch) (D : va_G) (ct : CT) (ad : Nat → Nat) (Z : Nat → Nat) (G : GG) (M : DD) (sz : Nat) (a : Nat) (p0 : Int32) (p1 : Int32) (y : NN × DD) (hc : a < G.1) (hk : G.2.1 a = 0) (hF : FX0_codePicture G M a p0 p1 = some y) : Met l yX0_codePicture wsX0_codePicture ({ frames := 8, cells := y.1.length, slots := wt y.1, locals := 241 }) (va_Pc [.ref (ad a), .int p0, .int p1] (kB D ct ad Z G M sz)) (va_Qv (fun (u : Nat → Nat) => agr G.1 ad u) (fun u t => kE D ct u (xt G y.1) (wA ad G sz) y.2 t) (wA ad G sz)) y.1.length (wt y.1) (wA ad G sz) := by
  refine Met.ofW (cc := cX0_codePicture) (maxL := 12) (ret := none) (by decide) rfl ?_
  intro p e s m args below meth c s₁ B hml hv
  obtain ⟨rfl, hsz, hP, hK, hD0, hZ, hN⟩ := hv
  have hx := B.exec
  have hb := B.bytes
  have hr := B.returns
  have hts := atoms_spec (ws := wsX0_codePicture) B.pre
  have hown : s.vm.findClass RX0 = some m.cls := findClass_of_methodNamed B.named
  have hlocks := B.notSynchronized
  subst hsz
  have hD := wD_self (sz := s.heap.size) hD0
  have hA9 : ∀ q, s.heap.size ≤ q → wA ad G s.heap.size q := fun q h => Or.inr h
  generalize hAe : wA ad G s.heap.size = A at hD hA9 hZ ⊢
  have hS : va_S A s.heap s.heap [] := va_S.rf
  have hl := lv_entry ([.ref (ad a), .int p0, .int p1]) (n := 12) (Nat.le_of_ble_eq_true rfl)
  rw [lg_entry_eq]
  generalize (lg_sl ([.ref (ad a), .int p0, .int p1]) ++ List.replicate (12 - (lg_sl ([.ref (ad a), .int p0, .int p1])).length) Slot.unset).toArray = ls at hl ⊢
  have hl : lv_has ls 12 [(0, .ref (ad a)), (1, .int p0), (2, .int p1)] := hl
  unfold FX0_codePicture at hF
  rw [← wld_0 ct ad G M] at hP hD
  have hk := xt_k0 hc hk
  have hc := xt_l0 hc
  have hag := agr_rf G.1 ad
  obtain ⟨w0, hw0⟩ : ∃ z, z = y := ⟨_, rfl⟩
  rw [← hw0] at hF
  have hT : y.1 = [] ++ w0.1 := by rw [hw0]; rfl
  have h2 : y.2 = w0.2 := by rw [hw0]
  have hbl : y.1.length ≤ y.1.length ∧ wt y.1 ≤ wt y.1 := ⟨Nat.le_refl _, Nat.le_refl _⟩
  refine lv_aload_n hx hb dX0_codePicture_0 rfl (lv_at hl 0 rfl) ?_
  refine va_get (D := D) (ci := 0) (v := va_re ad (M.2 a 1)) (C := RX0) (T := TX0) (N := 21) hx hb hts (by decide +kernel) hown hK hP a (wld_o ct ad (xt G []) M hc hk (by decide)) rfl 1 (by decide) (hts (.fieldLink RX0 23 "VideoSuite$Coder" "now" "[I") (by decide +kernel)) (fun _ h9 => h9) rfl dX0_codePicture_1 ?_
  refine lv_iconst (v := (0 : Int32)) hx hb dX0_codePicture_4 (by decide) ?_
  obtain ⟨b2, ho2, hc2, hk2, hF⟩ := dr_some hF
  refine W_st (st' := [.int (0 : Int32), .ref (ad b2)]) (by rw [va_some ho2]) ?_
  obtain ⟨hvc, hF⟩ := chk_some hF
  refine va_iald hx hb hK hP b2 1 (wld_i ct ad (xt G []) M hc2 hk2) rfl hvc dX0_codePicture_5 ?_
  obtain ⟨x3, ex3, hF⟩ := ltt_some hF
  refine lv_topi (fun zx3 ezx3 => ?_)
  obtain rfl : x3 = zx3 := ex3.trans ezx3.symm
  refine lv_aload_n hx hb dX0_codePicture_6 rfl (lv_at hl 0 rfl) ?_
  refine va_get (D := D) (ci := 0) (v := va_re ad (M.2 a 1)) (C := RX0) (T := TX0) (N := 21) hx hb hts (by decide +kernel) hown hK hP a (wld_o ct ad (xt G []) M hc hk (by decide)) rfl 1 (by decide) (hts (.fieldLink RX0 23 "VideoSuite$Coder" "now" "[I") (by decide +kernel)) (fun _ h9 => h9) rfl dX0_codePicture_7 ?_
  refine lv_iconst (v := (1 : Int32)) hx hb dX0_codePicture_10 (by decide) ?_
  refine W_st (st' := [.int (1 : Int32), .ref (ad b2), .int x3]) (by rw [va_some ho2]) ?_
  obtain ⟨hvc, hF⟩ := chk_some hF
  refine va_iald hx hb hK hP b2 1 (wld_i ct ad (xt G []) M hc2 hk2) rfl hvc dX0_codePicture_11 ?_
  obtain ⟨x4, ex4, hF⟩ := ltt_some hF
  refine lv_topi (fun zx4 ezx4 => ?_)
  obtain rfl : x4 = zx4 := ex4.trans ezx4.symm
  refine lv_imul hx hb dX0_codePicture_12 ?_
  obtain ⟨x5, ex5, hF⟩ := ltt_some hF
  refine lv_topi (fun zx5 ezx5 => ?_)
  obtain rfl : x5 = zx5 := ex5.trans ezx5.symm
  refine lv_istore_n (lv' := [(3, .int x5), (0, .ref (ad a)), (1, .int p0), (2, .int p1)]) hx hb dX0_codePicture_13 rfl hl (by decide) rfl (fun ls hl => ?_)
  refine lv_aload_n hx hb dX0_codePicture_14 rfl (lv_at hl 1 rfl) ?_
  refine va_get (D := D) (ci := 0) (v := va_re ad (M.2 a 2)) (C := RX0) (T := TX0) (N := 21) hx hb hts (by decide +kernel) hown hK hP a (wld_o ct ad (xt G []) M hc hk (by decide)) rfl 2 (by decide) (hts (.fieldLink RX0 29 "VideoSuite$Coder" "writer" "LVideoSuite$Writer;") (by decide +kernel)) (fun _ h9 => h9) rfl dX0_codePicture_15 ?_
  obtain ⟨b6, ho6, hc6, hk6, hF⟩ := dr_some hF
  refine W_st (st' := [.ref (ad b6)]) (by rw [va_some ho6]) ?_
  refine va_get (D := D) (ci := 10) (v := .int (M.1 b6 1)) (C := RX10) (T := TX10) (N := 20) hx hb hts (by decide +kernel) hown hK hP b6 (wld_o ct ad (xt G []) M hc6 hk6 (by decide)) rfl 1 (by decide) (hts (.fieldLink RX0 125 "VideoSuite$Writer" "length" "I") (by decide +kernel)) (fun _ h9 => h9) rfl dX0_codePicture_18 ?_
  obtain ⟨x7, ex7, hF⟩ := ltt_some hF
  refine lv_topi (fun zx7 ezx7 => ?_)
  obtain rfl : x7 = zx7 := ex7.trans ezx7.symm
  refine lv_istore (lv' := [(4, .int x7), (3, .int x5), (0, .ref (ad a)), (1, .int p0), (2, .int p1)]) hx hb dX0_codePicture_21 hl (by decide) rfl (fun ls hl => ?_)
  refine lv_aload_n hx hb dX0_codePicture_23 rfl (lv_at hl 2 rfl) ?_
  refine va_get (D := D) (ci := 0) (v := va_re ad (M.2 a 2)) (C := RX0) (T := TX0) (N := 21) hx hb hts (by decide +kernel) hown hK hP a (wld_o ct ad (xt G []) M hc hk (by decide)) rfl 2 (by decide) (hts (.fieldLink RX0 29 "VideoSuite$Coder" "writer" "LVideoSuite$Writer;") (by decide +kernel)) (fun _ h9 => h9) rfl dX0_codePicture_24 ?_
  refine W_st (st' := [.ref (ad b6)]) (by rw [va_some ho6]) ?_
  refine va_get (D := D) (ci := 10) (v := .int (M.1 b6 2)) (C := RX10) (T := TX10) (N := 20) hx hb hts (by decide +kernel) hown hK hP b6 (wld_o ct ad (xt G []) M hc6 hk6 (by decide)) rfl 2 (by decide) (hts (.fieldLink RX0 128 "VideoSuite$Writer" "units" "I") (by decide +kernel)) (fun _ h9 => h9) rfl dX0_codePicture_27 ?_
  obtain ⟨x8, ex8, hF⟩ := ltt_some hF
  refine lv_topi (fun zx8 ezx8 => ?_)
  obtain rfl : x8 = zx8 := ex8.trans ezx8.symm
  refine lv_istore (lv' := [(5, .int x8), (4, .int x7), (3, .int x5), (0, .ref (ad a)), (1, .int p0), (2, .int p1)]) hx hb dX0_codePicture_30 hl (by decide) rfl (fun ls hl => ?_)
  refine lv_aload_n hx hb dX0_codePicture_32 rfl (lv_at hl 3 rfl) ?_
  refine va_get (D := D) (ci := 0) (v := .int (M.1 a 14)) (C := RX0) (T := TX0) (N := 21) hx hb hts (by decide +kernel) hown hK hP a (wld_o ct ad (xt G []) M hc hk (by decide)) rfl 14 (by decide) (hts (.fieldLink RX0 113 "VideoSuite$Coder" "chance" "I") (by decide +kernel)) (fun _ h9 => h9) rfl dX0_codePicture_33 ?_
  obtain ⟨x9, ex9, hF⟩ := ltt_some hF
  refine lv_topi (fun zx9 ezx9 => ?_)
  obtain rfl : x9 = zx9 := ex9.trans ezx9.symm
  refine lv_istore (lv' := [(6, .int x9), (5, .int x8), (4, .int x7), (3, .int x5), (0, .ref (ad a)), (1, .int p0), (2, .int p1)]) hx hb dX0_codePicture_36 hl (by decide) rfl (fun ls hl => ?_)
  refine lv_aload_n hx hb dX0_codePicture_38 rfl (lv_at hl 4 rfl) ?_
  refine va_get (D := D) (ci := 0) (v := va_re ad (M.2 a 1)) (C := RX0) (T := TX0) (N := 21) hx hb hts (by decide +kernel) hown hK hP a (wld_o ct ad (xt G []) M hc hk (by decide)) rfl 1 (by decide) (hts (.fieldLink RX0 23 "VideoSuite$Coder" "now" "[I") (by decide +kernel)) (fun _ h9 => h9) rfl dX0_codePicture_39 ?_
  refine lv_iconst (v := (3 : Int32)) hx hb dX0_codePicture_42 (by decide) ?_
  refine lv_iload_n hx hb dX0_codePicture_43 rfl (lv_at hl 6 rfl) ?_
  refine lv_iconst (v := (2 : Int32)) hx hb dX0_codePicture_44 (by decide) ?_
  obtain ⟨y10, hy10, hF⟩ := bnd_some hF
  have J10 : ∀ (H : Heap) (locs : List Loc) (ls : Array Slot), va_P D classes (wld ct ad (xt G []) M) H → va_D A (wld ct ad (xt G []) M) → va_S A s.heap H locs → lv_has ls 12 [(6, .int x9), (5, .int x8), (4, .int x7), (3, .int x5), (0, .ref (ad a)), (1, .int p0), (2, .int p1)] → W p l e (headSpec wsX0_codePicture ({ frames := 8, cells := y.1.length, slots := wt y.1, locals := 241 })).room s m ([.ref (ad a), .int p0, .int p1] : List Value).toArray below meth c H locs ([] : NN).length (wt []) (MQ below (va_Qv (fun (u : Nat → Nat) => agr G.1 ad u) (fun u t => kE D ct u (xt G y.1) A y.2 t) A) ([.ref (ad a), .int p0, .int p1] : List Value).toArray s y.1.length (wt y.1) A) (F0 m 61 ls [.int y10, .int (3 : Int32), va_re ad (M.2 a 1)]) := by
    intro H locs ls hP hD hS hl
    refine lv_iadd hx hb dX0_codePicture_61 ?_
    obtain ⟨x11, ex11, hF⟩ := ltt_some hF
    refine lv_topi (fun zx11 ezx11 => ?_)
    obtain rfl : x11 = zx11 := ex11.trans ezx11.symm
    refine W_st (st' := [.int x11, .ref (ad b2)]) (by rw [va_some ho2]) ?_
    obtain ⟨hvc, hF⟩ := chk_some hF
    refine va_iald hx hb hK hP b2 1 (wld_i ct ad (xt G []) M hc2 hk2) rfl hvc dX0_codePicture_62 ?_
    obtain ⟨x12, ex12, hF⟩ := ltt_some hF
    refine lv_topi (fun zx12 ezx12 => ?_)
    obtain rfl : x12 = zx12 := ex12.trans ezx12.symm
    refine lv_istore (lv' := [(7, .int x12), (6, .int x9), (5, .int x8), (4, .int x7), (3, .int x5), (0, .ref (ad a)), (1, .int p0), (2, .int p1)]) hx hb dX0_codePicture_63 hl (by decide) rfl (fun ls hl => ?_)
    refine lv_iconst (v := (0 : Int32)) hx hb dX0_codePicture_65 (by decide) ?_
    refine lv_istore (lv' := [(8, .int (0 : Int32)), (7, .int x12), (6, .int x9), (5, .int x8), (4, .int x7), (3, .int x5), (0, .ref (ad a)), (1, .int p0), (2, .int p1)]) hx hb dX0_codePicture_66 hl (by decide) rfl (fun ls hl => ?_)
    refine lv_iconst (v := (0 : Int32)) hx hb dX0_codePicture_68 (by decide) ?_
    refine lv_istore (lv' := [(9, .int (0 : Int32)), (8, .int (0 : Int32)), (7, .int x12), (6, .int x9), (5, .int x8), (4, .int x7), (3, .int x5), (0, .ref (ad a)), (1, .int p0), (2, .int p1)]) hx hb dX0_codePicture_69 hl (by decide) rfl (fun ls hl => ?_)
    refine lv_aload_n hx hb dX0_codePicture_71 rfl (lv_at hl 7 rfl) ?_
    refine lv_iload_n hx hb dX0_codePicture_72 rfl (lv_at hl 8 rfl) ?_
    refine lv_iload_n hx hb dX0_codePicture_73 rfl (lv_at hl 9 rfl) ?_
    obtain ⟨y13, hy13, hF⟩ := bnd_some hF
    obtain ⟨w14, hF, ew14⟩ := app_some hF
    obtain ⟨L15, eL15, hF⟩ := ltt_some hF
    have hT15 : y.1 = ([] ++ y13.1) ++ w14.1 := by rw [hT, ew14]; simp only [List.append_assoc]
    have hf9 := wA_in hD hA9 hS
    refine va_callv (va_runV (As := [.int p0, .int p1]) (rest := []) ⟨hx, hb, hml, hown, hts⟩ (kX0_beginPicture l D ct ad Z (xt G []) M _ a p0 p1 y13 hc hk hy13) (cwV 2 hts gX0_codePicture_X0_beginPicture rfl rfl rfl (by decide +kernel) ⟨Nat.le_of_ble_eq_true rfl, Nat.le_of_ble_eq_true rfl⟩) ⟨fun a U g mk q => by obtain ⟨q0, q1, qP, qK, qD, qZ, qN⟩ := q; exact ⟨q0, q1, qP, va_K.moved (u := U) (U := U.calling g mk a) (Vm.Alike.refl U.vm) qK, qD, sF.moved (u := U) (U := U.calling g mk a) (Vm.Alike.refl U.vm) qZ, nF.same rfl qN⟩, va_recv hK hP (ci := 0) (q0 := a) rfl (wld_o ct ad (xt G []) M hc hk (by decide)), fun U hU hW => ⟨rfl, by rw [hU], by rw [hU]; exact hP, va_K.moved hW.alike hK, hD.weaken (fun _ _ _ _ => trivial), by rw [hU]; exact ((hZ.kept hS.2.1).narrow hf9).moved hW.alike, hN.warm hW⟩⟩ rfl rfl hl.1 rfl (lv_room (Nat.le_of_ble_eq_true rfl)) dX0_codePicture_74 (room_s hT15 hbl)) hS (fun q _ h => hf9 q h) hf9 (fun ad16 t H locs ht hvm hw hB hz1 hk1 hS => ?_)
    have hn17 := hw
    obtain ⟨hP, hK9, hD9⟩ := hB
    rw [ht] at hP
    have hD := hD9.weaken (fun _ q _ h => hf9 q.1 h)
    rw [xt_xt, ← eL15] at hP hD
    refine W_cs (k := L15.length) (n := wt L15) (by rw [eL15]; exact (len_s [] y13.1).symm) (by rw [eL15]; exact (wt_app [] y13.1).symm) ?_
    have hT : y.1 = L15 ++ w14.1 := by rw [hT15, eL15]
    have h2 : y.2 = w14.2 := by rw [h2, ew14]
    have hl := lv_sub (l' := [(9, .int (0 : Int32)), (8, .int (0 : Int32)), (7, .int x12), (6, .int x9), (5, .int x8), (4, .int x7), (3, .int x5), (0, .ref (ad a))]) hl [0, 1, 2, 3, 4, 5, 6, 7] rfl
    have e9 : ([(9, .int (0 : Int32)), (8, .int (0 : Int32)), (7, .int x12), (6, .int x9), (5, .int x8), (4, .int x7), (3, .int x5), (0, .ref (ad a))] : List (Nat × Value)) = [(9, .int (0 : Int32)), (8, .int (0 : Int32)), (7, .int x12), (6, .int x9), (5, .int x8), (4, .int x7), (3, .int x5), (0, .ref (ad16 a))] := (by first | rfl | simp only [hn17 a hc])
    rw [e9] at hl
    clear e9
    have hk : (xt G L15).2.1 a = 0 := by rw [eL15]; exact xt_k _ hc hk
    have hc : a < (xt G L15).1 := by rw [eL15]; exact xt_l _ hc
    have hk2 : (xt G L15).2.1 b2 = 13 := by rw [eL15]; exact xt_k _ hc2 hk2
    have hc2 : b2 < (xt G L15).1 := by rw [eL15]; exact xt_l _ hc2
    have hk6 : (xt G L15).2.1 b6 = 10 := by rw [eL15]; exact xt_k _ hc6 hk6
    have hc6 : b6 < (xt G L15).1 := by rw [eL15]; exact xt_l _ hc6
    have hag := agr_t (xt_ge _ _) hag hn17
    obtain ⟨y18, hy18, hF⟩ := bnd_some hF
    obtain ⟨w20, hF, ew20⟩ := app_some hF
    obtain ⟨L21, eL21, hF⟩ := ltt_some hF
    have hT21 : y.1 = (L15 ++ y18.1) ++ w20.1 := by rw [hT, ew20]; simp only [List.append_assoc]
    have hbl21 : L21.length ≤ y.1.length ∧ wt L21 ≤ wt y.1 := by rw [eL21]; exact room_d hT21 hbl
    have K18 : ∀ (ad22 : Nat → Nat), agr G.1 ad ad22 → ∀ (H : Heap) (locs : List Loc) (ls : Array Slot), va_P D classes (wld ct ad22 (xt G L21) y18.2.2.2.2) H → va_D A (wld ct ad22 (xt G L21) y18.2.2.2.2) → va_S A s.heap H locs → lv_has ls 12 [(9, .int y18.2.2.2.1), (8, .int y18.2.2.1), (7, .int y18.2.1), (0, .ref (ad22 a))] → W p l e (headSpec wsX0_codePicture ({ frames := 8, cells := y.1.length, slots := wt y.1, locals := 241 })).room s m ([.ref (ad a), .int p0, .int p1] : List Value).toArray below meth c H locs (L21 : NN).length (wt L21) (MQ below (va_Qv (fun (u : Nat → Nat) => agr G.1 ad u) (fun u t => kE D ct u (xt G y.1) A y.2 t) A) ([.ref (ad a), .int p0, .int p1] : List Value).toArray s y.1.length (wt y.1) A) (F0 m 354 ls []) := by
      intro ad22 hag H locs ls hP hD hS hl
      have hT : y.1 = L21 ++ w20.1 := by rw [hT21, eL21]
      have h2 : y.2 = w20.2 := by rw [h2, ew20]
      have hk : (xt G L21).2.1 a = 0 := by rw [eL21]; exact xt_k _ hc hk
      have hc : a < (xt G L21).1 := by rw [eL21]; exact xt_l _ hc
      have hk2 : (xt G L21).2.1 b2 = 13 := by rw [eL21]; exact xt_k _ hc2 hk2
      have hc2 : b2 < (xt G L21).1 := by rw [eL21]; exact xt_l _ hc2
      have hk6 : (xt G L21).2.1 b6 = 10 := by rw [eL21]; exact xt_k _ hc6 hk6
      have hc6 : b6 < (xt G L21).1 := by rw [eL21]; exact xt_l _ hc6
      refine lv_aload_n hx hb dX0_codePicture_354 rfl (lv_at hl 3 rfl) ?_
      refine lv_iload hx hb dX0_codePicture_355 (lv_at hl 1 rfl) ?_
      refine lv_iload hx hb dX0_codePicture_357 (lv_at hl 2 rfl) ?_
      refine lv_iload hx hb dX0_codePicture_359 (lv_at hl 0 rfl) ?_
      obtain ⟨y23, hy23, hF⟩ := bnd_some hF
      have hf9 := wA_in hD hA9 hS
      refine va_callv (va_runV (As := [.int y18.2.2.1, .int y18.2.1, .int y18.2.2.2.1]) (rest := []) ⟨hx, hb, hml, hown, hts⟩ (kX0_endPicture l D ct ad22 Z (xt G L21) y18.2.2.2.2 H.size a y18.2.2.1 y18.2.1 y18.2.2.2.1 y23 hc hk hy23) (cwV 3 hts gX0_codePicture_X0_endPicture rfl rfl rfl (by decide +kernel) ⟨Nat.le_of_ble_eq_true rfl, Nat.le_of_ble_eq_true rfl⟩) ⟨fun a U g mk q => by obtain ⟨q0, q1, qP, qK, qD, qZ, qN⟩ := q; exact ⟨q0, q1, qP, va_K.moved (u := U) (U := U.calling g mk a) (Vm.Alike.refl U.vm) qK, qD, sF.moved (u := U) (U := U.calling g mk a) (Vm.Alike.refl U.vm) qZ, nF.same rfl qN⟩, va_recv hK hP (ci := 0) (q0 := a) rfl (wld_o ct ad22 (xt G L21) y18.2.2.2.2 hc hk (by decide)), fun U hU hW => ⟨rfl, by rw [hU], by rw [hU]; exact hP, va_K.moved hW.alike hK, hD.weaken (fun _ _ _ _ => trivial), by rw [hU]; exact ((hZ.kept hS.2.1).narrow hf9).moved hW.alike, hN.warm hW⟩⟩ rfl rfl hl.1 rfl (lv_room (Nat.le_of_ble_eq_true rfl)) dX0_codePicture_361 (room_d hT hbl)) hS (fun q _ h => hf9 q h) hf9 (fun u t H locs ht hvm hw hB hz1 hk1 hS => ?_)
      obtain ⟨hP, hK9, hD9⟩ := hB
      rw [ht] at hP
      refine W_cs (k := (L21 : NN).length) (n := wt L21) rfl rfl ?_
      have hD := hD9.weaken (fun _ q _ h => hf9 q.1 h)
      obtain rfl := Option.some.inj hF
      have e1 : y.1 = L21 := by rw [hT]; exact List.append_nil _
      have e2 : y.2 = y23 := h2
      refine W.widen (k := y.1.length) (n := wt y.1) (Nat.le_of_eq (by rw [e1])) (Nat.le_of_eq (by rw [e1])) ?_
      exact W.vret hx hb hr (fun t ht hW => ⟨⟨ad22, rfl, hag, (by unfold kE; rw [e1, e2]; exact ⟨by rw [ht]; exact hP, va_K.moved hW.alike hK, hD⟩)⟩, hS.F ht⟩) hS.2.2 dX0_codePicture_364
    clear hF
    refine itrA_rule (fun (s19 : NN × Int32 × Int32 × Int32 × DD) (r25 : NN) => (∃ t, s19.1 = L15 ++ t) → L21 = s19.1 ++ r25 → ∀ (ad24 : Nat → Nat), agr G.1 ad ad24 → ∀ (H : Heap) (locs : List Loc) (ls : Array Slot), va_P D classes (wld ct ad24 (xt G s19.1) s19.2.2.2.2) H → va_D A (wld ct ad24 (xt G s19.1) s19.2.2.2.2) → va_S A s.heap H locs → lv_has ls 12 [(9, .int s19.2.2.2.1), (8, .int s19.2.2.1), (7, .int s19.2.1), (6, .int x9), (5, .int x8), (4, .int x7), (3, .int x5), (0, .ref (ad24 a))] → W p l e (headSpec wsX0_codePicture ({ frames := 8, cells := y.1.length, slots := wt y.1, locals := 241 })).room s m ([.ref (ad a), .int p0, .int p1] : List Value).toArray below meth c H locs (s19.1 : NN).length (wt s19.1) (MQ below (va_Qv (fun (u : Nat → Nat) => agr G.1 ad u) (fun u t => kE D ct u (xt G y.1) A y.2 t) A) ([.ref (ad a), .int p0, .int p1] : List Value).toArray s y.1.length (wt y.1) A) (F0 m 77 ls [])) ?_ _ _ _ hy18 ⟨[], (List.append_nil _).symm⟩ eL21 _ hag _ _ _ hP hD hS (lv_sub hl [0, 1, 2, 3, 4, 5, 6, 7] rfl)
    rintro s19 r25 ⟨z26, hF, ⟨t18, et18⟩, hwz26⟩ ⟨u18, eu18⟩ eq18 ad24 hag H locs ls hP hD hS hl
    try dsimp only at hF
    obtain ⟨L27, eL27⟩ : ∃ x, x = s19.1 ++ z26.1 := ⟨_, rfl⟩
    obtain ⟨w28, hw28⟩ : ∃ x, x = z26 := ⟨_, rfl⟩
    rw [← hw28] at hF
    have hbl : L27.length ≤ y.1.length ∧ wt L27 ≤ wt y.1 := room_d (show L21 = L27 ++ t18 by rw [eq18, et18, eL27]; simp only [List.append_assoc]) hbl21
    have hT : L27 = s19.1 ++ w28.1 := by rw [eL27, hw28]
    have h2 : z26.2 = w28.2 := by rw [hw28]
    have hk : (xt G s19.1).2.1 a = 0 := by rw [eu18]; exact xt_k _ hc hk
    have hc : a < (xt G s19.1).1 := by rw [eu18]; exact xt_l _ hc
    have hk2 : (xt G s19.1).2.1 b2 = 13 := by rw [eu18]; exact xt_k _ hc2 hk2
    have hc2 : b2 < (xt G s19.1).1 := by rw [eu18]; exact xt_l _ hc2
    have hk6 : (xt G s19.1).2.1 b6 = 10 := by rw [eu18]; exact xt_k _ hc6 hk6
    have hc6 : b6 < (xt G s19.1).1 := by rw [eu18]; exact xt_l _ hc6
    refine lv_iload hx hb dX0_codePicture_77 (lv_at hl 0 rfl) ?_
    refine lv_bipush (v := (9 : Int32)) hx hb dX0_codePicture_79 (by decide) ?_
    refine lv_icmp_ge (tgt := 354) hx hb dX0_codePicture_81 (by decide) (fun c29 => ?_) (fun c29 => ?_)
    · rw [if_pos c29] at hF
      obtain rfl := Option.some.inj hF
      have e1 : L27 = s19.1 := by rw [hT]; exact List.append_nil _
      have e2 : z26.2 = .inr ((s19.2.1, s19.2.2.1, s19.2.2.2.1, s19.2.2.2.2)) := h2
      rw [e2] at hwz26
      obtain ⟨hw1, hw2⟩ := hwz26
      have e8 : L21 = s19.1 := by rw [eq18, hw2, ← eL27, e1]
      rw [e8] at K18
      try rw [← hw1] at K18
      exact K18 _ hag _ _ _ hP hD hS (lv_sub hl [0, 1, 2, 7] rfl)
    · rw [if_neg c29] at hF
      obtain ⟨x30, ex30, hF⟩ := ltt_some hF
      refine lv_iinc (v := x30) (lv' := [(9, .int x30), (8, .int s19.2.2.1), (7, .int s19.2.1), (6, .int x9), (5, .int x8), (4, .int x7), (3, .int x5), (0, .ref (ad24 a))]) hx hb dX0_codePicture_84 hl (k := 0) rfl (by rw [ex30]; rfl) (by decide) rfl (fun ls hl => ?_)
      refine lv_aload_n hx hb dX0_codePicture_87 rfl (lv_at hl 7 rfl) ?_
      refine va_get (D := D) (ci := 0) (v := va_re ad24 (s19.2.2.2.2.2 a 2)) (C := RX0) (T := TX0) (N := 21) hx hb hts (by decide +kernel) hown hK hP a (wld_o ct ad24 (xt G s19.1) s19.2.2.2.2 hc hk (by decide)) rfl 2 (by decide) (hts (.fieldLink RX0 29 "VideoSuite$Coder" "writer" "LVideoSuite$Writer;") (by decide +kernel)) (fun _ h9 => h9) rfl dX0_codePicture_88 ?_
      refine lv_iload hx hb dX0_codePicture_91 (lv_at hl 5 rfl) ?_
      obtain ⟨b31, ho31, hc31, hk31, hF⟩ := dr_some hF
      refine W_st (st' := [.int x7, .ref (ad24 b31)]) (by rw [va_some ho31]) ?_
      refine va_put (D := D) (ci := 10) (v := .int x7) (ty := .int) (C := RX10) (T := TX10) (N := 20) hx hb hts (by decide +kernel) tyX10 tyX10_ok nmX10 hown hK hP hD hS b31 (wld_o ct ad24 (xt G s19.1) s19.2.2.2.2 hc31 hk31 (by decide)) rfl 1 (by decide) (hts (.fieldLink RX0 125 "VideoSuite$Writer" "length" "I") (by decide +kernel)) (fun _ h9 => h9) rfl (by decide +kernel) rfl rfl (Nat.le_of_ble_eq_true rfl) dX0_codePicture_93 (fun H locs hP hD hS => ?_)
      obtain ⟨M32, eM32, hF⟩ := ltt_some hF
      rw [set_oI ct ad24 (xt G s19.1) s19.2.2.2.2 hc31 hk31 (by decide) (by rfl), ← eM32] at hP hD
      refine lv_aload_n hx hb dX0_codePicture_96 rfl (lv_at hl 7 rfl) ?_
      refine va_get (D := D) (ci := 0) (v := va_re ad24 (M32.2 a 2)) (C := RX0) (T := TX0) (N := 21) hx hb hts (by decide +kernel) hown hK hP a (wld_o ct ad24 (xt G s19.1) M32 hc hk (by decide)) rfl 2 (by decide) (hts (.fieldLink RX0 29 "VideoSuite$Coder" "writer" "LVideoSuite$Writer;") (by decide +kernel)) (fun _ h9 => h9) rfl dX0_codePicture_97 ?_
      refine lv_iload hx hb dX0_codePicture_100 (lv_at hl 4 rfl) ?_
      obtain ⟨b33, ho33, hc33, hk33, hF⟩ := dr_some hF
      refine W_st (st' := [.int x8, .ref (ad24 b33)]) (by rw [va_some ho33]) ?_
      refine va_put (D := D) (ci := 10) (v := .int x8) (ty := .int) (C := RX10) (T := TX10) (N := 20) hx hb hts (by decide +kernel) tyX10 tyX10_ok nmX10 hown hK hP hD hS b33 (wld_o ct ad24 (xt G s19.1) M32 hc33 hk33 (by decide)) rfl 2 (by decide) (hts (.fieldLink RX0 128 "VideoSuite$Writer" "units" "I") (by decide +kernel)) (fun _ h9 => h9) rfl (by decide +kernel) rfl rfl (Nat.le_of_ble_eq_true rfl) dX0_codePicture_102 (fun H locs hP hD hS => ?_)
      obtain ⟨M34, eM34, hF⟩ := ltt_some hF
      rw [set_oI ct ad24 (xt G s19.1) M32 hc33 hk33 (by decide) (by rfl), ← eM34] at hP hD
      refine lv_aload_n hx hb dX0_codePicture_105 rfl (lv_at hl 7 rfl) ?_
      refine lv_iload hx hb dX0_codePicture_106 (lv_at hl 3 rfl) ?_
      refine va_put (D := D) (ci := 0) (v := .int x9) (ty := .int) (C := RX0) (T := TX0) (N := 21) hx hb hts (by decide +kernel) tyX0 tyX0_ok nmX0 hown hK hP hD hS a (wld_o ct ad24 (xt G s19.1) M34 hc hk (by decide)) rfl 14 (by decide) (hts (.fieldLink RX0 113 "VideoSuite$Coder" "chance" "I") (by decide +kernel)) (fun _ h9 => h9) rfl (by decide +kernel) rfl rfl (Nat.le_of_ble_eq_true rfl) dX0_codePicture_108 (fun H locs hP hD hS => ?_)
      obtain ⟨M35, eM35, hF⟩ := ltt_some hF
      rw [set_oI ct ad24 (xt G s19.1) M34 hc hk (by decide) (by rfl), ← eM35] at hP hD
      refine lv_aload_n hx hb dX0_codePicture_111 rfl (lv_at hl 7 rfl) ?_
      refine lv_iload hx hb dX0_codePicture_112 (lv_at hl 2 rfl) ?_
      obtain ⟨y36, hy36, hF⟩ := bnd_some hF
      have hf9 := wA_in hD hA9 hS
      refine va_callv (va_runV (As := [.int s19.2.1]) (rest := []) ⟨hx, hb, hml, hown, hts⟩ (kX0_beginTry l D ct ad24 Z (xt G s19.1) M35 H.size a s19.2.1 y36 hc hk hy36) (cwV 1 hts gX0_codePicture_X0_beginTry rfl rfl rfl (by decide +kernel) ⟨Nat.le_of_ble_eq_true rfl, Nat.le_of_ble_eq_true rfl⟩) ⟨fun a U g mk q => by obtain ⟨q0, q1, qP, qK, qD, qZ, qN⟩ := q; exact ⟨q0, q1, qP, va_K.moved (u := U) (U := U.calling g mk a) (Vm.Alike.refl U.vm) qK, qD, sF.moved (u := U) (U := U.calling g mk a) (Vm.Alike.refl U.vm) qZ, nF.same rfl qN⟩, va_recv hK hP (ci := 0) (q0 := a) rfl (wld_o ct ad24 (xt G s19.1) M35 hc hk (by decide)), fun U hU hW => ⟨rfl, by rw [hU], by rw [hU]; exact hP, va_K.moved hW.alike hK, hD.weaken (fun _ _ _ _ => trivial), by rw [hU]; exact ((hZ.kept hS.2.1).narrow hf9).moved hW.alike, hN.warm hW⟩⟩ rfl rfl hl.1 rfl (lv_room (Nat.le_of_ble_eq_true rfl)) dX0_codePicture_114 (room_d hT hbl)) hS (fun q _ h => hf9 q h) hf9 (fun u t H locs ht hvm hw hB hz1 hk1 hS => ?_)
      obtain ⟨hP, hK9, hD9⟩ := hB
      rw [ht] at hP
      refine W_cs (k := (s19.1 : NN).length) (n := wt s19.1) rfl rfl ?_
      have hD := hD9.weaken (fun _ q _ h => hf9 q.1 h)
      refine lv_iconst (v := (0 : Int32)) hx hb dX0_codePicture_117 (by decide) ?_
      refine lv_istore (lv' := [(10, .int (0 : Int32)), (9, .int x30), (8, .int s19.2.2.1), (7, .int s19.2.1), (6, .int x9), (5, .int x8), (4, .int x7), (3, .int x5), (0, .ref (ad24 a))]) hx hb dX0_codePicture_118 hl (by decide) rfl (fun ls hl => ?_)
      obtain ⟨y37, hy37, hF⟩ := bnd_some hF
      obtain ⟨w39, hF, ew39⟩ := app_some hF
      obtain ⟨L40, eL40, hF⟩ := ltt_some hF
      have hT40 : L27 = (s19.1 ++ y37.1) ++ w39.1 := by rw [hT, ew39]; simp only [List.append_assoc]
      have hbl40 : L40.length ≤ y.1.length ∧ wt L40 ≤ wt y.1 := by rw [eL40]; exact room_d hT40 hbl
      have K37 : ∀ (ad41 : Nat → Nat), agr G.1 ad ad41 → ∀ (H : Heap) (locs : List Loc) (ls : Array Slot), va_P D classes (wld ct ad41 (xt G L40) y37.2.2) H → va_D A (wld ct ad41 (xt G L40) y37.2.2) → va_S A s.heap H locs → lv_has ls 12 [(9, .int x30), (7, .int s19.2.1), (6, .int x9), (5, .int x8), (4, .int x7), (3, .int x5), (0, .ref (ad41 a))] → W p l e (headSpec wsX0_codePicture ({ frames := 8, cells := y.1.length, slots := wt y.1, locals := 241 })).room s m ([.ref (ad a), .int p0, .int p1] : List Value).toArray below meth c H locs (L40 : NN).length (wt L40) (MQ below (va_Qv (fun (u : Nat → Nat) => agr G.1 ad u) (fun u t => kE D ct u (xt G y.1) A y.2 t) A) ([.ref (ad a), .int p0, .int p1] : List Value).toArray s y.1.length (wt y.1) A) (F0 m 264 ls []) := by
        intro ad41 hag H locs ls hP hD hS hl
        have hT : L27 = L40 ++ w39.1 := by rw [hT40, eL40]
        have h2 : z26.2 = w39.2 := by rw [h2, ew39]
        have hk : (xt G L40).2.1 a = 0 := by rw [eL40]; exact xt_k _ hc hk
        have hc : a < (xt G L40).1 := by rw [eL40]; exact xt_l _ hc
        have hk2 : (xt G L40).2.1 b2 = 13 := by rw [eL40]; exact xt_k _ hc2 hk2
        have hc2 : b2 < (xt G L40).1 := by rw [eL40]; exact xt_l _ hc2
        have hk6 : (xt G L40).2.1 b6 = 10 := by rw [eL40]; exact xt_k _ hc6 hk6
        have hc6 : b6 < (xt G L40).1 := by rw [eL40]; exact xt_l _ hc6
        have hk31 : (xt G L40).2.1 b31 = 10 := by rw [eL40]; exact xt_k _ hc31 hk31
        have hc31 : b31 < (xt G L40).1 := by rw [eL40]; exact xt_l _ hc31
        have hk33 : (xt G L40).2.1 b33 = 10 := by rw [eL40]; exact xt_k _ hc33 hk33
        have hc33 : b33 < (xt G L40).1 := by rw [eL40]; exact xt_l _ hc33
        refine lv_bipush (v := (8 : Int32)) hx hb dX0_codePicture_264 (by decide) ?_
        refine lv_aload_n hx hb dX0_codePicture_266 rfl (lv_at hl 6 rfl) ?_
        refine va_get (D := D) (ci := 0) (v := va_re ad41 (y37.2.2.2 a 2)) (C := RX0) (T := TX0) (N := 21) hx hb hts (by decide +kernel) hown hK hP a (wld_o ct ad41 (xt G L40) y37.2.2 hc hk (by decide)) rfl 2 (by decide) (hts (.fieldLink RX0 29 "VideoSuite$Coder" "writer" "LVideoSuite$Writer;") (by decide +kernel)) (fun _ h9 => h9) rfl dX0_codePicture_267 ?_
        obtain ⟨b42, ho42, hc42, hk42, hF⟩ := dr_some hF
        refine W_st (st' := [.ref (ad41 b42), .int (8 : Int32)]) (by rw [va_some ho42]) ?_
        refine va_get (D := D) (ci := 10) (v := .int (y37.2.2.1 b42 1)) (C := RX10) (T := TX10) (N := 20) hx hb hts (by decide +kernel) hown hK hP b42 (wld_o ct ad41 (xt G L40) y37.2.2 hc42 hk42 (by decide)) rfl 1 (by decide) (hts (.fieldLink RX0 125 "VideoSuite$Writer" "length" "I") (by decide +kernel)) (fun _ h9 => h9) rfl dX0_codePicture_270 ?_
        obtain ⟨x43, ex43, hF⟩ := ltt_some hF
        refine lv_topi (fun zx43 ezx43 => ?_)
        obtain rfl : x43 = zx43 := ex43.trans ezx43.symm
        refine lv_iload hx hb dX0_codePicture_273 (lv_at hl 4 rfl) ?_
        refine lv_isub hx hb dX0_codePicture_275 ?_
        obtain ⟨x44, ex44, hF⟩ := ltt_some hF
        refine lv_topi (fun zx44 ezx44 => ?_)
        obtain rfl : x44 = zx44 := ex44.trans ezx44.symm
        refine lv_iconst (v := (4 : Int32)) hx hb dX0_codePicture_276 (by decide) ?_
        refine lv_aload_n hx hb dX0_codePicture_277 rfl (lv_at hl 6 rfl) ?_
        refine va_get (D := D) (ci := 0) (v := va_re ad41 (y37.2.2.2 a 2)) (C := RX0) (T := TX0) (N := 21) hx hb hts (by decide +kernel) hown hK hP a (wld_o ct ad41 (xt G L40) y37.2.2 hc hk (by decide)) rfl 2 (by decide) (hts (.fieldLink RX0 29 "VideoSuite$Coder" "writer" "LVideoSuite$Writer;") (by decide +kernel)) (fun _ h9 => h9) rfl dX0_codePicture_278 ?_
        refine W_st (st' := [.ref (ad41 b42), .int (4 : Int32), .int x44, .int (8 : Int32)]) (by rw [va_some ho42]) ?_
        refine va_get (D := D) (ci := 10) (v := .int (y37.2.2.1 b42 2)) (C := RX10) (T := TX10) (N := 20) hx hb hts (by decide +kernel) hown hK hP b42 (wld_o ct ad41 (xt G L40) y37.2.2 hc42 hk42 (by decide)) rfl 2 (by decide) (hts (.fieldLink RX0 128 "VideoSuite$Writer" "units" "I") (by decide +kernel)) (fun _ h9 => h9) rfl dX0_codePicture_281 ?_
        obtain ⟨x45, ex45, hF⟩ := ltt_some hF
        refine lv_topi (fun zx45 ezx45 => ?_)
        obtain rfl : x45 = zx45 := ex45.trans ezx45.symm
        refine lv_iload hx hb dX0_codePicture_284 (lv_at hl 3 rfl) ?_
        refine lv_isub hx hb dX0_codePicture_286 ?_
        obtain ⟨x46, ex46, hF⟩ := ltt_some hF
        refine lv_topi (fun zx46 ezx46 => ?_)
        obtain rfl : x46 = zx46 := ex46.trans ezx46.symm
        refine lv_imul hx hb dX0_codePicture_287 ?_
        obtain ⟨x47, ex47, hF⟩ := ltt_some hF
        refine lv_topi (fun zx47 ezx47 => ?_)
        obtain rfl : x47 = zx47 := ex47.trans ezx47.symm
        refine lv_isub hx hb dX0_codePicture_288 ?_
        obtain ⟨x48, ex48, hF⟩ := ltt_some hF
        refine lv_topi (fun zx48 ezx48 => ?_)
        obtain rfl : x48 = zx48 := ex48.trans ezx48.symm
        refine lv_imul hx hb dX0_codePicture_289 ?_
        obtain ⟨x49, ex49, hF⟩ := ltt_some hF
        refine lv_topi (fun zx49 ezx49 => ?_)
        obtain rfl : x49 = zx49 := ex49.trans ezx49.symm
        refine lv_istore (lv' := [(8, .int x49), (9, .int x30), (7, .int s19.2.1), (6, .int x9), (5, .int x8), (4, .int x7), (3, .int x5), (0, .ref (ad41 a))]) hx hb dX0_codePicture_290 hl (by decide) rfl (fun ls hl => ?_)
        refine lv_aload_n hx hb dX0_codePicture_292 rfl (lv_at hl 7 rfl) ?_
        refine va_get (D := D) (ci := 0) (v := va_re ad41 (y37.2.2.2 a 1)) (C := RX0) (T := TX0) (N := 21) hx hb hts (by decide +kernel) hown hK hP a (wld_o ct ad41 (xt G L40) y37.2.2 hc hk (by decide)) rfl 1 (by decide) (hts (.fieldLink RX0 23 "VideoSuite$Coder" "now" "[I") (by decide +kernel)) (fun _ h9 => h9) rfl dX0_codePicture_293 ?_
        refine lv_bipush (v := (16 : Int32)) hx hb dX0_codePicture_296 (by decide) ?_
        obtain ⟨b50, ho50, hc50, hk50, hF⟩ := dr_some hF
        refine W_st (st' := [.int (16 : Int32), .ref (ad41 b50)]) (by rw [va_some ho50]) ?_
        obtain ⟨hvc, hF⟩ := chk_some hF
        refine va_iald hx hb hK hP b50 1 (wld_i ct ad41 (xt G L40) y37.2.2 hc50 hk50) rfl hvc dX0_codePicture_298 ?_
        obtain ⟨x51, ex51, hF⟩ := ltt_some hF
        refine lv_topi (fun zx51 ezx51 => ?_)
        obtain rfl : x51 = zx51 := ex51.trans ezx51.symm
        refine lv_if_eq (tgt := 354) hx hb dX0_codePicture_299 (by decide) (fun c52 => ?_) (fun c52 => ?_)
        · rw [if_pos c52] at hF
          obtain rfl := Option.some.inj hF
          have e1 : L27 = L40 := by rw [hT]; exact List.append_nil _
          have e2 : z26.2 = .inr ((s19.2.1, x49, x30, y37.2.2)) := h2
          rw [e2] at hwz26
          obtain ⟨hw1, hw2⟩ := hwz26
          have e8 : L21 = L40 := by rw [eq18, hw2, ← eL27, e1]
          rw [e8] at K18
          try rw [← hw1] at K18
          exact K18 _ hag _ _ _ hP hD hS (lv_sub hl [1, 0, 2, 7] rfl)
        · rw [if_neg c52] at hF
          refine lv_iload hx hb dX0_codePicture_302 (lv_at hl 0 rfl) ?_
          refine lv_aload_n hx hb dX0_codePicture_304 rfl (lv_at hl 7 rfl) ?_
          refine va_get (D := D) (ci := 0) (v := va_re ad41 (y37.2.2.2 a 1)) (C := RX0) (T := TX0) (N := 21) hx hb hts (by decide +kernel) hown hK hP a (wld_o ct ad41 (xt G L40) y37.2.2 hc hk (by decide)) rfl 1 (by decide) (hts (.fieldLink RX0 23 "VideoSuite$Coder" "now" "[I") (by decide +kernel)) (fun _ h9 => h9) rfl dX0_codePicture_305 ?_
          refine lv_bipush (v := (16 : Int32)) hx hb dX0_codePicture_308 (by decide) ?_
          refine W_st (st' := [.int (16 : Int32), .ref (ad41 b50), .int x49]) (by rw [va_some ho50]) ?_
          obtain ⟨hvc, hF⟩ := chk_some hF
          refine va_iald hx hb hK hP b50 1 (wld_i ct ad41 (xt G L40) y37.2.2 hc50 hk50) rfl hvc dX0_codePicture_310 ?_
          obtain ⟨x53, ex53, hF⟩ := ltt_some hF
          refine lv_topi (fun zx53 ezx53 => ?_)
          obtain rfl : x53 = zx53 := ex53.trans ezx53.symm
          refine lv_aload_n hx hb dX0_codePicture_311 rfl (lv_at hl 7 rfl) ?_
          refine va_get (D := D) (ci := 0) (v := .int (y37.2.2.1 a 15)) (C := RX0) (T := TX0) (N := 21) hx hb hts (by decide +kernel) hown hK hP a (wld_o ct ad41 (xt G L40) y37.2.2 hc hk (by decide)) rfl 15 (by decide) (hts (.fieldLink RX0 116 "VideoSuite$Coder" "reserve" "I") (by decide +kernel)) (fun _ h9 => h9) rfl dX0_codePicture_312 ?_
          obtain ⟨x54, ex54, hF⟩ := ltt_some hF
          refine lv_topi (fun zx54 ezx54 => ?_)
          obtain rfl : x54 = zx54 := ex54.trans ezx54.symm
          refine lv_iadd hx hb dX0_codePicture_315 ?_
          obtain ⟨x55, ex55, hF⟩ := ltt_some hF
          refine lv_topi (fun zx55 ezx55 => ?_)
          obtain rfl : x55 = zx55 := ex55.trans ezx55.symm
          refine lv_icmp_le (tgt := 354) hx hb dX0_codePicture_316 (by decide) (fun c56 => ?_) (fun c56 => ?_)
          · rw [if_pos c56] at hF
            obtain rfl := Option.some.inj hF
            have e1 : L27 = L40 := by rw [hT]; exact List.append_nil _
            have e2 : z26.2 = .inr ((s19.2.1, x49, x30, y37.2.2)) := h2
            rw [e2] at hwz26
            obtain ⟨hw1, hw2⟩ := hwz26
            have e8 : L21 = L40 := by rw [eq18, hw2, ← eL27, e1]
            rw [e8] at K18
            try rw [← hw1] at K18
            exact K18 _ hag _ _ _ hP hD hS (lv_sub hl [1, 0, 2, 7] rfl)
          · rw [if_neg c56] at hF
            refine lv_iload hx hb dX0_codePicture_319 (lv_at hl 2 rfl) ?_
            refine lv_bipush (v := (51 : Int32)) hx hb dX0_codePicture_321 (by decide) ?_
            refine lv_icmp_ne (tgt := 329) hx hb dX0_codePicture_323 (by decide) (fun c57 => ?_) (fun c57 => ?_)
            · rw [if_neg c57] at hF
              refine lv_iload hx hb dX0_codePicture_329 (lv_at hl 2 rfl) ?_
              refine lv_bipush (v := (6 : Int32)) hx hb dX0_codePicture_331 (by decide) ?_
              refine lv_iadd hx hb dX0_codePicture_333 ?_
              obtain ⟨x58, ex58, hF⟩ := ltt_some hF
              refine lv_topi (fun zx58 ezx58 => ?_)
              obtain rfl : x58 = zx58 := ex58.trans ezx58.symm
              refine lv_bipush (v := (51 : Int32)) hx hb dX0_codePicture_334 (by decide) ?_
              obtain ⟨y59, hy59, hF⟩ := bnd_some hF
              have J59 : ∀ (H : Heap) (locs : List Loc) (ls : Array Slot), va_P D classes (wld ct ad41 (xt G L40) y37.2.2) H → va_D A (wld ct ad41 (xt G L40) y37.2.2) → va_S A s.heap H locs → lv_has ls 12 [(8, .int x49), (9, .int x30), (7, .int s19.2.1), (6, .int x9), (5, .int x8), (4, .int x7), (3, .int x5), (0, .ref (ad41 a))] → W p l e (headSpec wsX0_codePicture ({ frames := 8, cells := y.1.length, slots := wt y.1, locals := 241 })).room s m ([.ref (ad a), .int p0, .int p1] : List Value).toArray below meth c H locs (L40 : NN).length (wt L40) (MQ below (va_Qv (fun (u : Nat → Nat) => agr G.1 ad u) (fun u t => kE D ct u (xt G y.1) A y.2 t) A) ([.ref (ad a), .int p0, .int p1] : List Value).toArray s y.1.length (wt y.1) A) (F0 m 349 ls [.int y59]) := by
                intro H locs ls hP hD hS hl
                refine lv_istore (lv' := [(7, .int y59), (8, .int x49), (9, .int x30), (6, .int x9), (5, .int x8), (4, .int x7), (3, .int x5), (0, .ref (ad41 a))]) hx hb dX0_codePicture_349 hl (by decide) rfl (fun ls hl => ?_)
                refine lv_goto (tgt := 77) hx hb dX0_codePicture_351 (by decide) ?_
                obtain rfl := Option.some.inj hF
                have e1 : L27 = L40 := by rw [hT]; exact List.append_nil _
                have e2 : z26.2 = .inl (L40, (y59, x49, x30, y37.2.2)) := h2
                rw [e2] at hwz26
                obtain ⟨r2, er2, hwz26⟩ := hwz26
                exact hwz26 ⟨u18 ++ z26.1, by show L40 = _; rw [← e1, eL27, eu18]; simp only [List.append_assoc]⟩ (by show L21 = L40 ++ r2; rw [eq18, er2, ← e1, eL27]; simp only [List.append_assoc]) _ hag _ _ _ hP hD hS (lv_sub hl [2, 1, 0, 3, 4, 5, 6, 7] rfl)
              clear hF
              have hF := hy59
              clear hy59
              refine lv_icmp_le (tgt := 344) hx hb dX0_codePicture_336 (by decide) (fun c60 => ?_) (fun c60 => ?_)
              · rw [if_pos c60] at hF
                refine lv_iload hx hb dX0_codePicture_344 (lv_at hl 2 rfl) ?_
                refine lv_bipush (v := (6 : Int32)) hx hb dX0_codePicture_346 (by decide) ?_
                refine lv_iadd hx hb dX0_codePicture_348 ?_
                obtain ⟨x61, ex61, hF⟩ := ltt_some hF
                refine lv_topi (fun zx61 ezx61 => ?_)
                obtain rfl : x61 = zx61 := ex61.trans ezx61.symm
                obtain rfl := Option.some.inj hF
                exact J59 _ _ _ hP hD hS (lv_sub hl [0, 1, 2, 3, 4, 5, 6, 7] rfl)
              · rw [if_neg c60] at hF
                refine lv_bipush (v := (51 : Int32)) hx hb dX0_codePicture_339 (by decide) ?_
                refine lv_goto (tgt := 349) hx hb dX0_codePicture_341 (by decide) ?_
                obtain rfl := Option.some.inj hF
                exact J59 _ _ _ hP hD hS (lv_sub hl [0, 1, 2, 3, 4, 5, 6, 7] rfl)
            · rw [if_pos c57] at hF
              refine lv_goto (tgt := 354) hx hb dX0_codePicture_326 (by decide) ?_
              obtain rfl := Option.some.inj hF
              have e1 : L27 = L40 := by rw [hT]; exact List.append_nil _
              have e2 : z26.2 = .inr ((s19.2.1, x49, x30, y37.2.2)) := h2
              rw [e2] at hwz26
              obtain ⟨hw1, hw2⟩ := hwz26
              have e8 : L21 = L40 := by rw [eq18, hw2, ← eL27, e1]
              rw [e8] at K18
              try rw [← hw1] at K18
              exact K18 _ hag _ _ _ hP hD hS (lv_sub hl [1, 0, 2, 7] rfl)
      clear hF
      refine itrA_rule (fun (s38 : NN × Int32 × DD) (r63 : NN) => (∃ t, s38.1 = s19.1 ++ t) → L40 = s38.1 ++ r63 → ∀ (ad62 : Nat → Nat), agr G.1 ad ad62 → ∀ (H : Heap) (locs : List Loc) (ls : Array Slot), va_P D classes (wld ct ad62 (xt G s38.1) s38.2.2) H → va_D A (wld ct ad62 (xt G s38.1) s38.2.2) → va_S A s.heap H locs → lv_has ls 12 [(10, .int s38.2.1), (9, .int x30), (7, .int s19.2.1), (6, .int x9), (5, .int x8), (4, .int x7), (3, .int x5), (0, .ref (ad62 a))] → W p l e (headSpec wsX0_codePicture ({ frames := 8, cells := y.1.length, slots := wt y.1, locals := 241 })).room s m ([.ref (ad a), .int p0, .int p1] : List Value).toArray below meth c H locs (s38.1 : NN).length (wt s38.1) (MQ below (va_Qv (fun (u : Nat → Nat) => agr G.1 ad u) (fun u t => kE D ct u (xt G y.1) A y.2 t) A) ([.ref (ad a), .int p0, .int p1] : List Value).toArray s y.1.length (wt y.1) A) (F0 m 120 ls [])) ?_ _ _ _ hy37 ⟨[], (List.append_nil _).symm⟩ eL40 _ hag _ _ _ hP hD hS (lv_sub hl [0, 1, 3, 4, 5, 6, 7, 8] rfl)
      rintro s38 r63 ⟨z64, hF, ⟨t37, et37⟩, hwz64⟩ ⟨u37, eu37⟩ eq37 ad62 hag H locs ls hP hD hS hl
      try dsimp only at hF
      obtain ⟨L65, eL65⟩ : ∃ x, x = s38.1 ++ z64.1 := ⟨_, rfl⟩
      obtain ⟨w66, hw66⟩ : ∃ x, x = z64 := ⟨_, rfl⟩
      rw [← hw66] at hF
      have hbl : L65.length ≤ y.1.length ∧ wt L65 ≤ wt y.1 := room_d (show L40 = L65 ++ t37 by rw [eq37, et37, eL65]; simp only [List.append_assoc]) hbl40
      have hT : L65 = s38.1 ++ w66.1 := by rw [eL65, hw66]
      have h2 : z64.2 = w66.2 := by rw [hw66]
      have hk : (xt G s38.1).2.1 a = 0 := by rw [eu37]; exact xt_k _ hc hk
      have hc : a < (xt G s38.1).1 := by rw [eu37]; exact xt_l _ hc
      have hk2 : (xt G s38.1).2.1 b2 = 13 := by rw [eu37]; exact xt_k _ hc2 hk2
      have hc2 : b2 < (xt G s38.1).1 := by rw [eu37]; exact xt_l _ hc2
      have hk6 : (xt G s38.1).2.1 b6 = 10 := by rw [eu37]; exact xt_k _ hc6 hk6
      have hc6 : b6 < (xt G s38.1).1 := by rw [eu37]; exact xt_l _ hc6
      have hk31 : (xt G s38.1).2.1 b31 = 10 := by rw [eu37]; exact xt_k _ hc31 hk31
      have hc31 : b31 < (xt G s38.1).1 := by rw [eu37]; exact xt_l _ hc31
      have hk33 : (xt G s38.1).2.1 b33 = 10 := by rw [eu37]; exact xt_k _ hc33 hk33
      have hc33 : b33 < (xt G s38.1).1 := by rw [eu37]; exact xt_l _ hc33
      refine lv_iload hx hb dX0_codePicture_120 (lv_at hl 0 rfl) ?_
      refine lv_iload_n hx hb dX0_codePicture_122 rfl (lv_at hl 6 rfl) ?_
      refine lv_icmp_ge (tgt := 264) hx hb dX0_codePicture_123 (by decide) (fun c67 => ?_) (fun c67 => ?_)
      · rw [if_pos c67] at hF
        obtain rfl := Option.some.inj hF
        have e1 : L65 = s38.1 := by rw [hT]; exact List.append_nil _
        have e2 : z64.2 = .inr ((s38.2.1, s38.2.2)) := h2
        rw [e2] at hwz64
        obtain ⟨hw1, hw2⟩ := hwz64
        have e8 : L40 = s38.1 := by rw [eq37, hw2, ← eL65, e1]
        rw [e8] at K37
        try rw [← hw1] at K37
        exact K37 _ hag _ _ _ hP hD hS (lv_sub hl [1, 2, 3, 4, 5, 6, 7] rfl)
      · rw [if_neg c67] at hF
        refine lv_aload_n hx hb dX0_codePicture_126 rfl (lv_at hl 7 rfl) ?_
        refine lv_iload hx hb dX0_codePicture_127 (lv_at hl 0 rfl) ?_
        obtain ⟨y68, hy68, hF⟩ := bnd_some hF
        have hf9 := wA_in hD hA9 hS
        refine va_calli (va_runV (As := [.int s38.2.1]) (rest := []) ⟨hx, hb, hml, hown, hts⟩ (kX0_isSliceEdge l D ct ad62 Z (xt G s38.1) s38.2.2 H.size a s38.2.1 y68 hc hk hy68) (cwV 1 hts gX0_codePicture_X0_isSliceEdge rfl rfl rfl (by decide +kernel) ⟨Nat.le_of_ble_eq_true rfl, Nat.le_of_ble_eq_true rfl⟩) ⟨fun a U g mk q => by obtain ⟨q0, q1, qP, qK, qD, qZ, qN⟩ := q; exact ⟨q0, q1, qP, va_K.moved (u := U) (U := U.calling g mk a) (Vm.Alike.refl U.vm) qK, qD, sF.moved (u := U) (U := U.calling g mk a) (Vm.Alike.refl U.vm) qZ, nF.same rfl qN⟩, va_recv hK hP (ci := 0) (q0 := a) rfl (wld_o ct ad62 (xt G s38.1) s38.2.2 hc hk (by decide)), fun U hU hW => ⟨rfl, by rw [hU], by rw [hU]; exact hP, va_K.moved hW.alike hK, hD.weaken (fun _ _ _ _ => trivial), by rw [hU]; exact ((hZ.kept hS.2.1).narrow hf9).moved hW.alike, hN.warm hW⟩⟩ rfl rfl hl.1 rfl (lv_room (Nat.le_of_ble_eq_true rfl)) dX0_codePicture_129 (room_d hT hbl)) hS (fun q _ h => hf9 q h) hf9 (fun r u t H locs ht hvm hw hB hz1 hk1 hS => ?_)
        obtain ⟨hP, hK9, hD9⟩ := hB
        rw [ht] at hP
        try dsimp only at hw
        subst hw
        refine W_cs (k := (s38.1 : NN).length) (n := wt s38.1) rfl rfl ?_
        have hD := hD9.weaken (fun _ q _ h => hf9 q.1 h)
        obtain ⟨y69, hy69, hF⟩ := bnd_some hF
        obtain ⟨w70, hF, ew70⟩ := app_some hF
        obtain ⟨L71, eL71, hF⟩ := ltt_some hF
        have hT71 : L65 = (s38.1 ++ y69.1) ++ w70.1 := by rw [hT, ew70]; simp only [List.append_assoc]
        have hbl71 : L71.length ≤ y.1.length ∧ wt L71 ≤ wt y.1 := by rw [eL71]; exact room_d hT71 hbl
        have J69 : ∀ (ad72 : Nat → Nat), agr G.1 ad ad72 → ∀ (H : Heap) (locs : List Loc) (ls : Array Slot), va_P D classes (wld ct ad72 (xt G L71) y69.2) H → va_D A (wld ct ad72 (xt G L71) y69.2) → va_S A s.heap H locs → lv_has ls 12 [(10, .int s38.2.1), (9, .int x30), (7, .int s19.2.1), (6, .int x9), (5, .int x8), (4, .int x7), (3, .int x5), (0, .ref (ad72 a))] → W p l e (headSpec wsX0_codePicture ({ frames := 8, cells := y.1.length, slots := wt y.1, locals := 241 })).room s m ([.ref (ad a), .int p0, .int p1] : List Value).toArray below meth c H locs (L71 : NN).length (wt L71) (MQ below (va_Qv (fun (u : Nat → Nat) => agr G.1 ad u) (fun u t => kE D ct u (xt G y.1) A y.2 t) A) ([.ref (ad a), .int p0, .int p1] : List Value).toArray s y.1.length (wt y.1) A) (F0 m 145 ls []) := by
          intro ad72 hag H locs ls hP hD hS hl
          have hT : L65 = L71 ++ w70.1 := by rw [hT71, eL71]
          have h2 : z64.2 = w70.2 := by rw [h2, ew70]
          have hk : (xt G L71).2.1 a = 0 := by rw [eL71]; exact xt_k _ hc hk
          have hc : a < (xt G L71).1 := by rw [eL71]; exact xt_l _ hc
          have hk2 : (xt G L71).2.1 b2 = 13 := by rw [eL71]; exact xt_k _ hc2 hk2
          have hc2 : b2 < (xt G L71).1 := by rw [eL71]; exact xt_l _ hc2
          have hk6 : (xt G L71).2.1 b6 = 10 := by rw [eL71]; exact xt_k _ hc6 hk6
          have hc6 : b6 < (xt G L71).1 := by rw [eL71]; exact xt_l _ hc6
          have hk31 : (xt G L71).2.1 b31 = 10 := by rw [eL71]; exact xt_k _ hc31 hk31
          have hc31 : b31 < (xt G L71).1 := by rw [eL71]; exact xt_l _ hc31
          have hk33 : (xt G L71).2.1 b33 = 10 := by rw [eL71]; exact xt_k _ hc33 hk33
          have hc33 : b33 < (xt G L71).1 := by rw [eL71]; exact xt_l _ hc33
          refine lv_aload_n hx hb dX0_codePicture_145 rfl (lv_at hl 7 rfl) ?_
          refine va_get (D := D) (ci := 0) (v := va_re ad72 (y69.2.2 a 1)) (C := RX0) (T := TX0) (N := 21) hx hb hts (by decide +kernel) hown hK hP a (wld_o ct ad72 (xt G L71) y69.2 hc hk (by decide)) rfl 1 (by decide) (hts (.fieldLink RX0 23 "VideoSuite$Coder" "now" "[I") (by decide +kernel)) (fun _ h9 => h9) rfl dX0_codePicture_146 ?_
          refine lv_bipush (v := (17 : Int32)) hx hb dX0_codePicture_149 (by decide) ?_
          obtain ⟨b73, ho73, hc73, hk73, hF⟩ := dr_some hF
          refine W_st (st' := [.int (17 : Int32), .ref (ad72 b73)]) (by rw [va_some ho73]) ?_
          obtain ⟨hvc, hF⟩ := chk_some hF
          refine va_iald hx hb hK hP b73 1 (wld_i ct ad72 (xt G L71) y69.2 hc73 hk73) rfl hvc dX0_codePicture_151 ?_
          obtain ⟨x74, ex74, hF⟩ := ltt_some hF
          refine lv_topi (fun zx74 ezx74 => ?_)
          obtain rfl : x74 = zx74 := ex74.trans ezx74.symm
          refine lv_iconst (v := (1 : Int32)) hx hb dX0_codePicture_152 (by decide) ?_
          obtain ⟨y75, hy75, hF⟩ := bnd_some hF
          have J75 : ∀ (H : Heap) (locs : List Loc) (ls : Array Slot), va_P D classes (wld ct ad72 (xt G L71) y75) H → va_D A (wld ct ad72 (xt G L71) y75) → va_S A s.heap H locs → lv_has ls 12 [(10, .int s38.2.1), (9, .int x30), (7, .int s19.2.1), (6, .int x9), (5, .int x8), (4, .int x7), (3, .int x5), (0, .ref (ad72 a))] → W p l e (headSpec wsX0_codePicture ({ frames := 8, cells := y.1.length, slots := wt y.1, locals := 241 })).room s m ([.ref (ad a), .int p0, .int p1] : List Value).toArray below meth c H locs (L71 : NN).length (wt L71) (MQ below (va_Qv (fun (u : Nat → Nat) => agr G.1 ad u) (fun u t => kE D ct u (xt G y.1) A y.2 t) A) ([.ref (ad a), .int p0, .int p1] : List Value).toArray s y.1.length (wt y.1) A) (F0 m 201 ls []) := by
            intro H locs ls hP hD hS hl
            refine lv_aload_n hx hb dX0_codePicture_201 rfl (lv_at hl 7 rfl) ?_
            refine lv_iload hx hb dX0_codePicture_202 (lv_at hl 0 rfl) ?_
            obtain ⟨y76, hy76, hF⟩ := bnd_some hF
            have hf9 := wA_in hD hA9 hS
            refine va_calli (va_runV (As := [.int s38.2.1]) (rest := []) ⟨hx, hb, hml, hown, hts⟩ (kX0_drawStep l D ct ad72 Z (xt G L71) y75 H.size a s38.2.1 y76 hc hk hy76) (cwV 1 hts gX0_codePicture_X0_drawStep rfl rfl rfl (by decide +kernel) ⟨Nat.le_of_ble_eq_true rfl, Nat.le_of_ble_eq_true rfl⟩) ⟨fun a U g mk q => by obtain ⟨q0, q1, qP, qK, qD, qZ, qN⟩ := q; exact ⟨q0, q1, qP, va_K.moved (u := U) (U := U.calling g mk a) (Vm.Alike.refl U.vm) qK, qD, sF.moved (u := U) (U := U.calling g mk a) (Vm.Alike.refl U.vm) qZ, nF.same rfl qN⟩, va_recv hK hP (ci := 0) (q0 := a) rfl (wld_o ct ad72 (xt G L71) y75 hc hk (by decide)), fun U hU hW => ⟨rfl, by rw [hU], by rw [hU]; exact hP, va_K.moved hW.alike hK, hD.weaken (fun _ _ _ _ => trivial), by rw [hU]; exact ((hZ.kept hS.2.1).narrow hf9).moved hW.alike, hN.warm hW⟩⟩ rfl rfl hl.1 rfl (lv_room (Nat.le_of_ble_eq_true rfl)) dX0_codePicture_204 (room_d hT hbl)) hS (fun q _ h => hf9 q h) hf9 (fun r u t H locs ht hvm hw hB hz1 hk1 hS => ?_)
            obtain ⟨hP, hK9, hD9⟩ := hB
            rw [ht] at hP
            try dsimp only at hw
            subst hw
            refine W_cs (k := (L71 : NN).length) (n := wt L71) rfl rfl ?_
            have hD := hD9.weaken (fun _ q _ h => hf9 q.1 h)
            refine lv_istore (lv' := [(11, .int y76.2), (10, .int s38.2.1), (9, .int x30), (7, .int s19.2.1), (6, .int x9), (5, .int x8), (4, .int x7), (3, .int x5), (0, .ref (ad72 a))]) hx hb dX0_codePicture_207 hl (by decide) rfl (fun ls hl => ?_)
            refine lv_aload_n hx hb dX0_codePicture_209 rfl (lv_at hl 8 rfl) ?_
            refine lv_iload hx hb dX0_codePicture_210 (lv_at hl 1 rfl) ?_
            refine lv_iload hx hb dX0_codePicture_212 (lv_at hl 0 rfl) ?_
            obtain ⟨y77, hy77, hF⟩ := bnd_some hF
            have hf9 := wA_in hD hA9 hS
            refine va_callv (va_runV (As := [.int s38.2.1, .int y76.2]) (rest := []) ⟨hx, hb, hml, hown, hts⟩ (kX0_build l D ct ad72 Z (xt G L71) y76.1 H.size a s38.2.1 y76.2 y77 hc hk hy77) (cwV 2 hts gX0_codePicture_X0_build rfl rfl rfl (by decide +kernel) ⟨Nat.le_of_ble_eq_true rfl, Nat.le_of_ble_eq_true rfl⟩) ⟨fun a U g mk q => by obtain ⟨q0, q1, qP, qK, qD, qZ, qN⟩ := q; exact ⟨q0, q1, qP, va_K.moved (u := U) (U := U.calling g mk a) (Vm.Alike.refl U.vm) qK, qD, sF.moved (u := U) (U := U.calling g mk a) (Vm.Alike.refl U.vm) qZ, nF.same rfl qN⟩, va_recv hK hP (ci := 0) (q0 := a) rfl (wld_o ct ad72 (xt G L71) y76.1 hc hk (by decide)), fun U hU hW => ⟨rfl, by rw [hU], by rw [hU]; exact hP, va_K.moved hW.alike hK, hD.weaken (fun _ _ _ _ => trivial), by rw [hU]; exact ((hZ.kept hS.2.1).narrow hf9).moved hW.alike, hN.warm hW⟩⟩ rfl rfl hl.1 rfl (lv_room (Nat.le_of_ble_eq_true rfl)) dX0_codePicture_214 (room_d hT hbl)) hS (fun q _ h => hf9 q h) hf9 (fun u t H locs ht hvm hw hB hz1 hk1 hS => ?_)
            obtain ⟨hP, hK9, hD9⟩ := hB
            rw [ht] at hP
            refine W_cs (k := (L71 : NN).length) (n := wt L71) rfl rfl ?_
            have hD := hD9.weaken (fun _ q _ h => hf9 q.1 h)
            refine lv_aload_n hx hb dX0_codePicture_217 rfl (lv_at hl 8 rfl) ?_
            refine lv_iload hx hb dX0_codePicture_218 (lv_at hl 1 rfl) ?_
            obtain ⟨y78, hy78, hF⟩ := bnd_some hF
            obtain ⟨w79, hF, ew79⟩ := app_some hF
            obtain ⟨L80, eL80, hF⟩ := ltt_some hF
            have hT80 : L65 = (L71 ++ y78.1) ++ w79.1 := by rw [hT, ew79]; simp only [List.append_assoc]
            have hf9 := wA_in hD hA9 hS
            refine va_callv (va_runV (As := [.int s38.2.1]) (rest := []) ⟨hx, hb, hml, hown, hts⟩ (kX0_writeBlock l D ct ad72 Z (xt G L71) y77 _ a s38.2.1 y78 hc hk hy78) (cwV 1 hts gX0_codePicture_X0_writeBlock rfl rfl rfl (by decide +kernel) ⟨Nat.le_of_ble_eq_true rfl, Nat.le_of_ble_eq_true rfl⟩) ⟨fun a U g mk q => by obtain ⟨q0, q1, qP, qK, qD, qZ, qN⟩ := q; exact ⟨q0, q1, qP, va_K.moved (u := U) (U := U.calling g mk a) (Vm.Alike.refl U.vm) qK, qD, sF.moved (u := U) (U := U.calling g mk a) (Vm.Alike.refl U.vm) qZ, nF.same rfl qN⟩, va_recv hK hP (ci := 0) (q0 := a) rfl (wld_o ct ad72 (xt G L71) y77 hc hk (by decide)), fun U hU hW => ⟨rfl, by rw [hU], by rw [hU]; exact hP, va_K.moved hW.alike hK, hD.weaken (fun _ _ _ _ => trivial), by rw [hU]; exact ((hZ.kept hS.2.1).narrow hf9).moved hW.alike, hN.warm hW⟩⟩ rfl rfl hl.1 rfl (lv_room (Nat.le_of_ble_eq_true rfl)) dX0_codePicture_220 (room_s hT80 hbl)) hS (fun q _ h => hf9 q h) hf9 (fun ad81 t H locs ht hvm hw hB hz1 hk1 hS => ?_)
            have hn82 := hw
            obtain ⟨hP, hK9, hD9⟩ := hB
            rw [ht] at hP
            have hD := hD9.weaken (fun _ q _ h => hf9 q.1 h)
            rw [xt_xt, ← eL80] at hP hD
            refine W_cs (k := L80.length) (n := wt L80) (by rw [eL80]; exact (len_s L71 y78.1).symm) (by rw [eL80]; exact (wt_app L71 y78.1).symm) ?_
            have hT : L65 = L80 ++ w79.1 := by rw [hT80, eL80]
            have h2 : z64.2 = w79.2 := by rw [h2, ew79]
            have hl := lv_sub (l' := [(11, .int y76.2), (10, .int s38.2.1), (9, .int x30), (7, .int s19.2.1), (6, .int x9), (5, .int x8), (4, .int x7), (3, .int x5), (0, .ref (ad72 a))]) hl [0, 1, 2, 3, 4, 5, 6, 7, 8] rfl
            have e9 : ([(11, .int y76.2), (10, .int s38.2.1), (9, .int x30), (7, .int s19.2.1), (6, .int x9), (5, .int x8), (4, .int x7), (3, .int x5), (0, .ref (ad72 a))] : List (Nat × Value)) = [(11, .int y76.2), (10, .int s38.2.1), (9, .int x30), (7, .int s19.2.1), (6, .int x9), (5, .int x8), (4, .int x7), (3, .int x5), (0, .ref (ad81 a))] := (by first | rfl | simp only [hn82 a hc])
            rw [e9] at hl
            clear e9
            have hk : (xt G L80).2.1 a = 0 := by rw [eL80]; exact xt_k _ hc hk
            have hc : a < (xt G L80).1 := by rw [eL80]; exact xt_l _ hc
            have hk2 : (xt G L80).2.1 b2 = 13 := by rw [eL80]; exact xt_k _ hc2 hk2
            have hc2 : b2 < (xt G L80).1 := by rw [eL80]; exact xt_l _ hc2
            have hk6 : (xt G L80).2.1 b6 = 10 := by rw [eL80]; exact xt_k _ hc6 hk6
            have hc6 : b6 < (xt G L80).1 := by rw [eL80]; exact xt_l _ hc6
            have hk31 : (xt G L80).2.1 b31 = 10 := by rw [eL80]; exact xt_k _ hc31 hk31
            have hc31 : b31 < (xt G L80).1 := by rw [eL80]; exact xt_l _ hc31
            have hk33 : (xt G L80).2.1 b33 = 10 := by rw [eL80]; exact xt_k _ hc33 hk33
            have hc33 : b33 < (xt G L80).1 := by rw [eL80]; exact xt_l _ hc33
            have hk73 : (xt G L80).2.1 b73 = 13 := by rw [eL80]; exact xt_k _ hc73 hk73
            have hc73 : b73 < (xt G L80).1 := by rw [eL80]; exact xt_l _ hc73
            have hag := agr_t (xt_ge _ _) hag hn82
            refine lv_aload_n hx hb dX0_codePicture_223 rfl (lv_at hl 8 rfl) ?_
            refine lv_iload hx hb dX0_codePicture_224 (lv_at hl 1 rfl) ?_
            obtain ⟨y83, hy83, hF⟩ := bnd_some hF
            obtain ⟨w84, hF, ew84⟩ := app_some hF
            obtain ⟨L85, eL85, hF⟩ := ltt_some hF
            have hT85 : L65 = (L80 ++ y83.1) ++ w84.1 := by rw [hT, ew84]; simp only [List.append_assoc]
            have hf9 := wA_in hD hA9 hS
            refine va_callv (va_runV (As := [.int s38.2.1]) (rest := []) ⟨hx, hb, hml, hown, hts⟩ (kX0_writeMotion l D ct ad81 Z (xt G L80) y78.2 _ a s38.2.1 y83 hc hk hy83) (cwV 1 hts gX0_codePicture_X0_writeMotion rfl rfl rfl (by decide +kernel) ⟨Nat.le_of_ble_eq_true rfl, Nat.le_of_ble_eq_true rfl⟩) ⟨fun a U g mk q => by obtain ⟨q0, q1, qP, qK, qD, qZ, qN⟩ := q; exact ⟨q0, q1, qP, va_K.moved (u := U) (U := U.calling g mk a) (Vm.Alike.refl U.vm) qK, qD, sF.moved (u := U) (U := U.calling g mk a) (Vm.Alike.refl U.vm) qZ, nF.same rfl qN⟩, va_recv hK hP (ci := 0) (q0 := a) rfl (wld_o ct ad81 (xt G L80) y78.2 hc hk (by decide)), fun U hU hW => ⟨rfl, by rw [hU], by rw [hU]; exact hP, va_K.moved hW.alike hK, hD.weaken (fun _ _ _ _ => trivial), by rw [hU]; exact ((hZ.kept hS.2.1).narrow hf9).moved hW.alike, hN.warm hW⟩⟩ rfl rfl hl.1 rfl (lv_room (Nat.le_of_ble_eq_true rfl)) dX0_codePicture_226 (room_s hT85 hbl)) hS (fun q _ h => hf9 q h) hf9 (fun ad86 t H locs ht hvm hw hB hz1 hk1 hS => ?_)
            have hn87 := hw
            obtain ⟨hP, hK9, hD9⟩ := hB
            rw [ht] at hP
            have hD := hD9.weaken (fun _ q _ h => hf9 q.1 h)
            rw [xt_xt, ← eL85] at hP hD
            refine W_cs (k := L85.length) (n := wt L85) (by rw [eL85]; exact (len_s L80 y83.1).symm) (by rw [eL85]; exact (wt_app L80 y83.1).symm) ?_
            have hT : L65 = L85 ++ w84.1 := by rw [hT85, eL85]
            have h2 : z64.2 = w84.2 := by rw [h2, ew84]
            have hl := lv_sub (l' := [(11, .int y76.2), (10, .int s38.2.1), (9, .int x30), (7, .int s19.2.1), (6, .int x9), (5, .int x8), (4, .int x7), (3, .int x5), (0, .ref (ad81 a))]) hl [0, 1, 2, 3, 4, 5, 6, 7, 8] rfl
            have e9 : ([(11, .int y76.2), (10, .int s38.2.1), (9, .int x30), (7, .int s19.2.1), (6, .int x9), (5, .int x8), (4, .int x7), (3, .int x5), (0, .ref (ad81 a))] : List (Nat × Value)) = [(11, .int y76.2), (10, .int s38.2.1), (9, .int x30), (7, .int s19.2.1), (6, .int x9), (5, .int x8), (4, .int x7), (3, .int x5), (0, .ref (ad86 a))] := (by first | rfl | simp only [hn87 a hc])
            rw [e9] at hl
            clear e9
            have hk : (xt G L85).2.1 a = 0 := by rw [eL85]; exact xt_k _ hc hk
            have hc : a < (xt G L85).1 := by rw [eL85]; exact xt_l _ hc
            have hk2 : (xt G L85).2.1 b2 = 13 := by rw [eL85]; exact xt_k _ hc2 hk2
            have hc2 : b2 < (xt G L85).1 := by rw [eL85]; exact xt_l _ hc2
            have hk6 : (xt G L85).2.1 b6 = 10 := by rw [eL85]; exact xt_k _ hc6 hk6
            have hc6 : b6 < (xt G L85).1 := by rw [eL85]; exact xt_l _ hc6
            have hk31 : (xt G L85).2.1 b31 = 10 := by rw [eL85]; exact xt_k _ hc31 hk31
            have hc31 : b31 < (xt G L85).1 := by rw [eL85]; exact xt_l _ hc31
            have hk33 : (xt G L85).2.1 b33 = 10 := by rw [eL85]; exact xt_k _ hc33 hk33
            have hc33 : b33 < (xt G L85).1 := by rw [eL85]; exact xt_l _ hc33
            have hk73 : (xt G L85).2.1 b73 = 13 := by rw [eL85]; exact xt_k _ hc73 hk73
            have hc73 : b73 < (xt G L85).1 := by rw [eL85]; exact xt_l _ hc73
            have hag := agr_t (xt_ge _ _) hag hn87
            refine lv_aload_n hx hb dX0_codePicture_229 rfl (lv_at hl 8 rfl) ?_
            refine lv_iload hx hb dX0_codePicture_230 (lv_at hl 1 rfl) ?_
            refine lv_iload hx hb dX0_codePicture_232 (lv_at hl 0 rfl) ?_
            obtain ⟨y88, hy88, hF⟩ := bnd_some hF
            obtain ⟨w89, hF, ew89⟩ := app_some hF
            obtain ⟨L90, eL90, hF⟩ := ltt_some hF
            have hT90 : L65 = (L85 ++ y88.1) ++ w89.1 := by rw [hT, ew89]; simp only [List.append_assoc]
            have hf9 := wA_in hD hA9 hS
            refine va_callv (va_runV (As := [.int s38.2.1, .int y76.2]) (rest := []) ⟨hx, hb, hml, hown, hts⟩ (kX0_writePattern l D ct ad86 Z (xt G L85) y83.2 _ a s38.2.1 y76.2 y88 hc hk hy88) (cwV 2 hts gX0_codePicture_X0_writePattern rfl rfl rfl (by decide +kernel) ⟨Nat.le_of_ble_eq_true rfl, Nat.le_of_ble_eq_true rfl⟩) ⟨fun a U g mk q => by obtain ⟨q0, q1, qP, qK, qD, qZ, qN⟩ := q; exact ⟨q0, q1, qP, va_K.moved (u := U) (U := U.calling g mk a) (Vm.Alike.refl U.vm) qK, qD, sF.moved (u := U) (U := U.calling g mk a) (Vm.Alike.refl U.vm) qZ, nF.same rfl qN⟩, va_recv hK hP (ci := 0) (q0 := a) rfl (wld_o ct ad86 (xt G L85) y83.2 hc hk (by decide)), fun U hU hW => ⟨rfl, by rw [hU], by rw [hU]; exact hP, va_K.moved hW.alike hK, hD.weaken (fun _ _ _ _ => trivial), by rw [hU]; exact ((hZ.kept hS.2.1).narrow hf9).moved hW.alike, hN.warm hW⟩⟩ rfl rfl hl.1 rfl (lv_room (Nat.le_of_ble_eq_true rfl)) dX0_codePicture_234 (room_s hT90 hbl)) hS (fun q _ h => hf9 q h) hf9 (fun ad91 t H locs ht hvm hw hB hz1 hk1 hS => ?_)
            have hn92 := hw
            obtain ⟨hP, hK9, hD9⟩ := hB
            rw [ht] at hP
            have hD := hD9.weaken (fun _ q _ h => hf9 q.1 h)
            rw [xt_xt, ← eL90] at hP hD
            refine W_cs (k := L90.length) (n := wt L90) (by rw [eL90]; exact (len_s L85 y88.1).symm) (by rw [eL90]; exact (wt_app L85 y88.1).symm) ?_
            have hT : L65 = L90 ++ w89.1 := by rw [hT90, eL90]
            have h2 : z64.2 = w89.2 := by rw [h2, ew89]
            have hl := lv_sub (l' := [(10, .int s38.2.1), (9, .int x30), (7, .int s19.2.1), (6, .int x9), (5, .int x8), (4, .int x7), (3, .int x5), (0, .ref (ad86 a))]) hl [1, 2, 3, 4, 5, 6, 7, 8] rfl
            have e9 : ([(10, .int s38.2.1), (9, .int x30), (7, .int s19.2.1), (6, .int x9), (5, .int x8), (4, .int x7), (3, .int x5), (0, .ref (ad86 a))] : List (Nat × Value)) = [(10, .int s38.2.1), (9, .int x30), (7, .int s19.2.1), (6, .int x9), (5, .int x8), (4, .int x7), (3, .int x5), (0, .ref (ad91 a))] := (by first | rfl | simp only [hn92 a hc])
            rw [e9] at hl
            clear e9
            have hk : (xt G L90).2.1 a = 0 := by rw [eL90]; exact xt_k _ hc hk
            have hc : a < (xt G L90).1 := by rw [eL90]; exact xt_l _ hc
            have hk2 : (xt G L90).2.1 b2 = 13 := by rw [eL90]; exact xt_k _ hc2 hk2
            have hc2 : b2 < (xt G L90).1 := by rw [eL90]; exact xt_l _ hc2
            have hk6 : (xt G L90).2.1 b6 = 10 := by rw [eL90]; exact xt_k _ hc6 hk6
            have hc6 : b6 < (xt G L90).1 := by rw [eL90]; exact xt_l _ hc6
            have hk31 : (xt G L90).2.1 b31 = 10 := by rw [eL90]; exact xt_k _ hc31 hk31
            have hc31 : b31 < (xt G L90).1 := by rw [eL90]; exact xt_l _ hc31
            have hk33 : (xt G L90).2.1 b33 = 10 := by rw [eL90]; exact xt_k _ hc33 hk33
            have hc33 : b33 < (xt G L90).1 := by rw [eL90]; exact xt_l _ hc33
            have hk73 : (xt G L90).2.1 b73 = 13 := by rw [eL90]; exact xt_k _ hc73 hk73
            have hc73 : b73 < (xt G L90).1 := by rw [eL90]; exact xt_l _ hc73
            have hag := agr_t (xt_ge _ _) hag hn92
            refine lv_aload_n hx hb dX0_codePicture_237 rfl (lv_at hl 7 rfl) ?_
            refine lv_iload hx hb dX0_codePicture_238 (lv_at hl 0 rfl) ?_
            obtain ⟨y93, hy93, hF⟩ := bnd_some hF
            obtain ⟨w94, hF, ew94⟩ := app_some hF
            obtain ⟨L95, eL95, hF⟩ := ltt_some hF
            have hT95 : L65 = (L90 ++ y93.1) ++ w94.1 := by rw [hT, ew94]; simp only [List.append_assoc]
            have hf9 := wA_in hD hA9 hS
            refine va_callv (va_runV (As := [.int s38.2.1]) (rest := []) ⟨hx, hb, hml, hown, hts⟩ (kX0_writeLevels l D ct ad91 Z (xt G L90) y88.2 _ a s38.2.1 y93 hc hk hy93) (cwV 1 hts gX0_codePicture_X0_writeLevels rfl rfl rfl (by decide +kernel) ⟨Nat.le_of_ble_eq_true rfl, Nat.le_of_ble_eq_true rfl⟩) ⟨fun a U g mk q => by obtain ⟨q0, q1, qP, qK, qD, qZ, qN⟩ := q; exact ⟨q0, q1, qP, va_K.moved (u := U) (U := U.calling g mk a) (Vm.Alike.refl U.vm) qK, qD, sF.moved (u := U) (U := U.calling g mk a) (Vm.Alike.refl U.vm) qZ, nF.same rfl qN⟩, va_recv hK hP (ci := 0) (q0 := a) rfl (wld_o ct ad91 (xt G L90) y88.2 hc hk (by decide)), fun U hU hW => ⟨rfl, by rw [hU], by rw [hU]; exact hP, va_K.moved hW.alike hK, hD.weaken (fun _ _ _ _ => trivial), by rw [hU]; exact ((hZ.kept hS.2.1).narrow hf9).moved hW.alike, hN.warm hW⟩⟩ rfl rfl hl.1 rfl (lv_room (Nat.le_of_ble_eq_true rfl)) dX0_codePicture_240 (room_s hT95 hbl)) hS (fun q _ h => hf9 q h) hf9 (fun ad96 t H locs ht hvm hw hB hz1 hk1 hS => ?_)
            have hn97 := hw
            obtain ⟨hP, hK9, hD9⟩ := hB
            rw [ht] at hP
            have hD := hD9.weaken (fun _ q _ h => hf9 q.1 h)
            rw [xt_xt, ← eL95] at hP hD
            refine W_cs (k := L95.length) (n := wt L95) (by rw [eL95]; exact (len_s L90 y93.1).symm) (by rw [eL95]; exact (wt_app L90 y93.1).symm) ?_
            have hT : L65 = L95 ++ w94.1 := by rw [hT95, eL95]
            have h2 : z64.2 = w94.2 := by rw [h2, ew94]
            have hl := lv_sub (l' := [(10, .int s38.2.1), (9, .int x30), (7, .int s19.2.1), (6, .int x9), (5, .int x8), (4, .int x7), (3, .int x5), (0, .ref (ad91 a))]) hl [0, 1, 2, 3, 4, 5, 6, 7] rfl
            have e9 : ([(10, .int s38.2.1), (9, .int x30), (7, .int s19.2.1), (6, .int x9), (5, .int x8), (4, .int x7), (3, .int x5), (0, .ref (ad91 a))] : List (Nat × Value)) = [(10, .int s38.2.1), (9, .int x30), (7, .int s19.2.1), (6, .int x9), (5, .int x8), (4, .int x7), (3, .int x5), (0, .ref (ad96 a))] := (by first | rfl | simp only [hn97 a hc])
            rw [e9] at hl
            clear e9
            have hk : (xt G L95).2.1 a = 0 := by rw [eL95]; exact xt_k _ hc hk
            have hc : a < (xt G L95).1 := by rw [eL95]; exact xt_l _ hc
            have hk2 : (xt G L95).2.1 b2 = 13 := by rw [eL95]; exact xt_k _ hc2 hk2
            have hc2 : b2 < (xt G L95).1 := by rw [eL95]; exact xt_l _ hc2
            have hk6 : (xt G L95).2.1 b6 = 10 := by rw [eL95]; exact xt_k _ hc6 hk6
            have hc6 : b6 < (xt G L95).1 := by rw [eL95]; exact xt_l _ hc6
            have hk31 : (xt G L95).2.1 b31 = 10 := by rw [eL95]; exact xt_k _ hc31 hk31
            have hc31 : b31 < (xt G L95).1 := by rw [eL95]; exact xt_l _ hc31
            have hk33 : (xt G L95).2.1 b33 = 10 := by rw [eL95]; exact xt_k _ hc33 hk33
            have hc33 : b33 < (xt G L95).1 := by rw [eL95]; exact xt_l _ hc33
            have hk73 : (xt G L95).2.1 b73 = 13 := by rw [eL95]; exact xt_k _ hc73 hk73
            have hc73 : b73 < (xt G L95).1 := by rw [eL95]; exact xt_l _ hc73
            have hag := agr_t (xt_ge _ _) hag hn97
            refine lv_aload_n hx hb dX0_codePicture_243 rfl (lv_at hl 7 rfl) ?_
            refine va_get (D := D) (ci := 0) (v := va_re ad96 (y93.2.2 a 3)) (C := RX0) (T := TX0) (N := 21) hx hb hts (by decide +kernel) hown hK hP a (wld_o ct ad96 (xt G L95) y93.2 hc hk (by decide)) rfl 3 (by decide) (hts (.fieldLink RX0 36 "VideoSuite$Coder" "work" "LVideoSuite$Work;") (by decide +kernel)) (fun _ h9 => h9) rfl dX0_codePicture_244 ?_
            refine lv_iload hx hb dX0_codePicture_247 (lv_at hl 0 rfl) ?_
            obtain ⟨b98, ho98, hc98, hk98, hF⟩ := dr_some hF
            refine W_st (st' := [.int s38.2.1, .ref (ad96 b98)]) (by rw [va_some ho98]) ?_
            obtain ⟨y99, hy99, hF⟩ := bnd_some hF
            have hf9 := wA_in hD hA9 hS
            refine va_callv (va_runV (As := [.int s38.2.1]) (rest := []) ⟨hx, hb, hml, hown, hts⟩ (kX9_endBlock l D ct ad96 Z (xt G L95) y93.2 H.size b98 s38.2.1 y99 hc98 hk98 hy99) (cwV 1 hts gX0_codePicture_X9_endBlock rfl rfl rfl (by decide +kernel) ⟨Nat.le_of_ble_eq_true rfl, Nat.le_of_ble_eq_true rfl⟩) ⟨fun a U g mk q => by obtain ⟨q0, q1, qP, qK, qD, qZ, qN⟩ := q; exact ⟨q0, q1, qP, va_K.moved (u := U) (U := U.calling g mk a) (Vm.Alike.refl U.vm) qK, qD, sF.moved (u := U) (U := U.calling g mk a) (Vm.Alike.refl U.vm) qZ, nF.same rfl qN⟩, va_recv hK hP (ci := 9) (q0 := b98) rfl (wld_o ct ad96 (xt G L95) y93.2 hc98 hk98 (by decide)), fun U hU hW => ⟨rfl, by rw [hU], by rw [hU]; exact hP, va_K.moved hW.alike hK, hD.weaken (fun _ _ _ _ => trivial), by rw [hU]; exact ((hZ.kept hS.2.1).narrow hf9).moved hW.alike, hN.warm hW⟩⟩ rfl rfl hl.1 rfl (lv_room (Nat.le_of_ble_eq_true rfl)) dX0_codePicture_249 (room_d hT hbl)) hS (fun q _ h => hf9 q h) hf9 (fun u t H locs ht hvm hw hB hz1 hk1 hS => ?_)
            obtain ⟨hP, hK9, hD9⟩ := hB
            rw [ht] at hP
            refine W_cs (k := (L95 : NN).length) (n := wt L95) rfl rfl ?_
            have hD := hD9.weaken (fun _ q _ h => hf9 q.1 h)
            refine lv_aload_n hx hb dX0_codePicture_252 rfl (lv_at hl 7 rfl) ?_
            refine lv_iload hx hb dX0_codePicture_253 (lv_at hl 0 rfl) ?_
            obtain ⟨y100, hy100, hF⟩ := bnd_some hF
            obtain ⟨w101, hF, ew101⟩ := app_some hF
            obtain ⟨L102, eL102, hF⟩ := ltt_some hF
            have hT102 : L65 = (L95 ++ y100.1) ++ w101.1 := by rw [hT, ew101]; simp only [List.append_assoc]
            have hf9 := wA_in hD hA9 hS
            refine va_callv (va_runV (As := [.int s38.2.1]) (rest := []) ⟨hx, hb, hml, hown, hts⟩ (kX0_endSlice l D ct ad96 Z (xt G L95) y99 _ a s38.2.1 y100 hc hk hy100) (cwV 1 hts gX0_codePicture_X0_endSlice rfl rfl rfl (by decide +kernel) ⟨Nat.le_of_ble_eq_true rfl, Nat.le_of_ble_eq_true rfl⟩) ⟨fun a U g mk q => by obtain ⟨q0, q1, qP, qK, qD, qZ, qN⟩ := q; exact ⟨q0, q1, qP, va_K.moved (u := U) (U := U.calling g mk a) (Vm.Alike.refl U.vm) qK, qD, sF.moved (u := U) (U := U.calling g mk a) (Vm.Alike.refl U.vm) qZ, nF.same rfl qN⟩, va_recv hK hP (ci := 0) (q0 := a) rfl (wld_o ct ad96 (xt G L95) y99 hc hk (by decide)), fun U hU hW => ⟨rfl, by rw [hU], by rw [hU]; exact hP, va_K.moved hW.alike hK, hD.weaken (fun _ _ _ _ => trivial), by rw [hU]; exact ((hZ.kept hS.2.1).narrow hf9).moved hW.alike, hN.warm hW⟩⟩ rfl rfl hl.1 rfl (lv_room (Nat.le_of_ble_eq_true rfl)) dX0_codePicture_255 (room_s hT102 hbl)) hS (fun q _ h => hf9 q h) hf9 (fun ad103 t H locs ht hvm hw hB hz1 hk1 hS => ?_)
            have hn104 := hw
            obtain ⟨hP, hK9, hD9⟩ := hB
            rw [ht] at hP
            have hD := hD9.weaken (fun _ q _ h => hf9 q.1 h)
            rw [xt_xt, ← eL102] at hP hD
            refine W_cs (k := L102.length) (n := wt L102) (by rw [eL102]; exact (len_s L95 y100.1).symm) (by rw [eL102]; exact (wt_app L95 y100.1).symm) ?_
            have hT : L65 = L102 ++ w101.1 := by rw [hT102, eL102]
            have h2 : z64.2 = w101.2 := by rw [h2, ew101]
            have hl := lv_sub (l' := [(10, .int s38.2.1), (9, .int x30), (7, .int s19.2.1), (6, .int x9), (5, .int x8), (4, .int x7), (3, .int x5), (0, .ref (ad96 a))]) hl [0, 1, 2, 3, 4, 5, 6, 7] rfl
            have e9 : ([(10, .int s38.2.1), (9, .int x30), (7, .int s19.2.1), (6, .int x9), (5, .int x8), (4, .int x7), (3, .int x5), (0, .ref (ad96 a))] : List (Nat × Value)) = [(10, .int s38.2.1), (9, .int x30), (7, .int s19.2.1), (6, .int x9), (5, .int x8), (4, .int x7), (3, .int x5), (0, .ref (ad103 a))] := (by first | rfl | simp only [hn104 a hc])
            rw [e9] at hl
            clear e9
            have hk : (xt G L102).2.1 a = 0 := by rw [eL102]; exact xt_k _ hc hk
            have hc : a < (xt G L102).1 := by rw [eL102]; exact xt_l _ hc
            have hk2 : (xt G L102).2.1 b2 = 13 := by rw [eL102]; exact xt_k _ hc2 hk2
            have hc2 : b2 < (xt G L102).1 := by rw [eL102]; exact xt_l _ hc2
            have hk6 : (xt G L102).2.1 b6 = 10 := by rw [eL102]; exact xt_k _ hc6 hk6
            have hc6 : b6 < (xt G L102).1 := by rw [eL102]; exact xt_l _ hc6
            have hk31 : (xt G L102).2.1 b31 = 10 := by rw [eL102]; exact xt_k _ hc31 hk31
            have hc31 : b31 < (xt G L102).1 := by rw [eL102]; exact xt_l _ hc31
            have hk33 : (xt G L102).2.1 b33 = 10 := by rw [eL102]; exact xt_k _ hc33 hk33
            have hc33 : b33 < (xt G L102).1 := by rw [eL102]; exact xt_l _ hc33
            have hk73 : (xt G L102).2.1 b73 = 13 := by rw [eL102]; exact xt_k _ hc73 hk73
            have hc73 : b73 < (xt G L102).1 := by rw [eL102]; exact xt_l _ hc73
            have hk98 : (xt G L102).2.1 b98 = 9 := by rw [eL102]; exact xt_k _ hc98 hk98
            have hc98 : b98 < (xt G L102).1 := by rw [eL102]; exact xt_l _ hc98
            have hag := agr_t (xt_ge _ _) hag hn104
            obtain ⟨x105, ex105, hF⟩ := ltt_some hF
            refine lv_iinc (v := x105) (lv' := [(10, .int x105), (9, .int x30), (7, .int s19.2.1), (6, .int x9), (5, .int x8), (4, .int x7), (3, .int x5), (0, .ref (ad103 a))]) hx hb dX0_codePicture_258 hl (k := 0) rfl (by rw [ex105]; rfl) (by decide) rfl (fun ls hl => ?_)
            refine lv_goto (tgt := 120) hx hb dX0_codePicture_261 (by decide) ?_
            obtain rfl := Option.some.inj hF
            have e1 : L65 = L102 := by rw [hT]; exact List.append_nil _
            have e2 : z64.2 = .inl (L102, (x105, y100.2)) := h2
            rw [e2] at hwz64
            obtain ⟨r2, er2, hwz64⟩ := hwz64
            exact hwz64 ⟨u37 ++ z64.1, by show L102 = _; rw [← e1, eL65, eu37]; simp only [List.append_assoc]⟩ (by show L40 = L102 ++ r2; rw [eq37, er2, ← e1, eL65]; simp only [List.append_assoc]) _ hag _ _ _ hP hD hS (lv_sub hl [0, 1, 2, 3, 4, 5, 6, 7] rfl)
          clear hF
          have hF := hy75
          clear hy75
          refine lv_icmp_ne (tgt := 175) hx hb dX0_codePicture_153 (by decide) (fun c106 => ?_) (fun c106 => ?_)
          · rw [if_neg c106] at hF
            refine lv_aload_n hx hb dX0_codePicture_175 rfl (lv_at hl 7 rfl) ?_
            refine va_get (D := D) (ci := 0) (v := va_re ad72 (y69.2.2 a 1)) (C := RX0) (T := TX0) (N := 21) hx hb hts (by decide +kernel) hown hK hP a (wld_o ct ad72 (xt G L71) y69.2 hc hk (by decide)) rfl 1 (by decide) (hts (.fieldLink RX0 23 "VideoSuite$Coder" "now" "[I") (by decide +kernel)) (fun _ h9 => h9) rfl dX0_codePicture_176 ?_
            refine lv_bipush (v := (8 : Int32)) hx hb dX0_codePicture_179 (by decide) ?_
            refine W_st (st' := [.int (8 : Int32), .ref (ad72 b73)]) (by rw [va_some ho73]) ?_
            obtain ⟨hvc, hF⟩ := chk_some hF
            refine va_iald hx hb hK hP b73 1 (wld_i ct ad72 (xt G L71) y69.2 hc73 hk73) rfl hvc dX0_codePicture_181 ?_
            obtain ⟨x107, ex107, hF⟩ := ltt_some hF
            refine lv_topi (fun zx107 ezx107 => ?_)
            obtain rfl : x107 = zx107 := ex107.trans ezx107.symm
            refine lv_iconst (v := (1 : Int32)) hx hb dX0_codePicture_182 (by decide) ?_
            obtain ⟨y108, hy108, hF⟩ := bnd_some hF
            have J108 : ∀ (H : Heap) (locs : List Loc) (ls : Array Slot), va_P D classes (wld ct ad72 (xt G L71) y108) H → va_D A (wld ct ad72 (xt G L71) y108) → va_S A s.heap H locs → lv_has ls 12 [(10, .int s38.2.1), (9, .int x30), (7, .int s19.2.1), (6, .int x9), (5, .int x8), (4, .int x7), (3, .int x5), (0, .ref (ad72 a))] → W p l e (headSpec wsX0_codePicture ({ frames := 8, cells := y.1.length, slots := wt y.1, locals := 241 })).room s m ([.ref (ad a), .int p0, .int p1] : List Value).toArray below meth c H locs (L71 : NN).length (wt L71) (MQ below (va_Qv (fun (u : Nat → Nat) => agr G.1 ad u) (fun u t => kE D ct u (xt G y.1) A y.2 t) A) ([.ref (ad a), .int p0, .int p1] : List Value).toArray s y.1.length (wt y.1) A) (F0 m 201 ls []) := by
              intro H locs ls hP hD hS hl
              obtain rfl := Option.some.inj hF
              exact J75 _ _ _ hP hD hS (lv_sub hl [0, 1, 2, 3, 4, 5, 6, 7] rfl)
            clear hF
            have hF := hy108
            clear hy108
            refine lv_icmp_ne (tgt := 195) hx hb dX0_codePicture_183 (by decide) (fun c109 => ?_) (fun c109 => ?_)
            · rw [if_neg c109] at hF
              refine lv_aload_n hx hb dX0_codePicture_195 rfl (lv_at hl 7 rfl) ?_
              refine lv_iload hx hb dX0_codePicture_196 (lv_at hl 0 rfl) ?_
              obtain ⟨y110, hy110, hF⟩ := bnd_some hF
              have hf9 := wA_in hD hA9 hS
              refine va_callv (va_runV (As := [.int s38.2.1]) (rest := []) ⟨hx, hb, hml, hown, hts⟩ (kX0_chooseByCosts l D ct ad72 Z (xt G L71) y69.2 H.size a s38.2.1 y110 hc hk hy110) (cwV 1 hts gX0_codePicture_X0_chooseByCosts rfl rfl rfl (by decide +kernel) ⟨Nat.le_of_ble_eq_true rfl, Nat.le_of_ble_eq_true rfl⟩) ⟨fun a U g mk q => by obtain ⟨q0, q1, qP, qK, qD, qZ, qN⟩ := q; exact ⟨q0, q1, qP, va_K.moved (u := U) (U := U.calling g mk a) (Vm.Alike.refl U.vm) qK, qD, sF.moved (u := U) (U := U.calling g mk a) (Vm.Alike.refl U.vm) qZ, nF.same rfl qN⟩, va_recv hK hP (ci := 0) (q0 := a) rfl (wld_o ct ad72 (xt G L71) y69.2 hc hk (by decide)), fun U hU hW => ⟨rfl, by rw [hU], by rw [hU]; exact hP, va_K.moved hW.alike hK, hD.weaken (fun _ _ _ _ => trivial), by rw [hU]; exact ((hZ.kept hS.2.1).narrow hf9).moved hW.alike, hN.warm hW⟩⟩ rfl rfl hl.1 rfl (lv_room (Nat.le_of_ble_eq_true rfl)) dX0_codePicture_198 (room_d hT hbl)) hS (fun q _ h => hf9 q h) hf9 (fun u t H locs ht hvm hw hB hz1 hk1 hS => ?_)
              obtain ⟨hP, hK9, hD9⟩ := hB
              rw [ht] at hP
              refine W_cs (k := (L71 : NN).length) (n := wt L71) rfl rfl ?_
              have hD := hD9.weaken (fun _ q _ h => hf9 q.1 h)
              obtain rfl := Option.some.inj hF
              exact J108 _ _ _ hP hD hS (lv_sub hl [0, 1, 2, 3, 4, 5, 6, 7] rfl)
            · rw [if_pos c109] at hF
              refine lv_aload_n hx hb dX0_codePicture_186 rfl (lv_at hl 7 rfl) ?_
              refine lv_iload hx hb dX0_codePicture_187 (lv_at hl 0 rfl) ?_
              obtain ⟨y111, hy111, hF⟩ := bnd_some hF
              have hf9 := wA_in hD hA9 hS
              refine va_callv (va_runV (As := [.int s38.2.1]) (rest := []) ⟨hx, hb, hml, hown, hts⟩ (kX0_chooseByChance l D ct ad72 Z (xt G L71) y69.2 H.size a s38.2.1 y111 hc hk hy111) (cwV 1 hts gX0_codePicture_X0_chooseByChance rfl rfl rfl (by decide +kernel) ⟨Nat.le_of_ble_eq_true rfl, Nat.le_of_ble_eq_true rfl⟩) ⟨fun a U g mk q => by obtain ⟨q0, q1, qP, qK, qD, qZ, qN⟩ := q; exact ⟨q0, q1, qP, va_K.moved (u := U) (U := U.calling g mk a) (Vm.Alike.refl U.vm) qK, qD, sF.moved (u := U) (U := U.calling g mk a) (Vm.Alike.refl U.vm) qZ, nF.same rfl qN⟩, va_recv hK hP (ci := 0) (q0 := a) rfl (wld_o ct ad72 (xt G L71) y69.2 hc hk (by decide)), fun U hU hW => ⟨rfl, by rw [hU], by rw [hU]; exact hP, va_K.moved hW.alike hK, hD.weaken (fun _ _ _ _ => trivial), by rw [hU]; exact ((hZ.kept hS.2.1).narrow hf9).moved hW.alike, hN.warm hW⟩⟩ rfl rfl hl.1 rfl (lv_room (Nat.le_of_ble_eq_true rfl)) dX0_codePicture_189 (room_d hT hbl)) hS (fun q _ h => hf9 q h) hf9 (fun u t H locs ht hvm hw hB hz1 hk1 hS => ?_)
              obtain ⟨hP, hK9, hD9⟩ := hB
              rw [ht] at hP
              refine W_cs (k := (L71 : NN).length) (n := wt L71) rfl rfl ?_
              have hD := hD9.weaken (fun _ q _ h => hf9 q.1 h)
              refine lv_goto (tgt := 201) hx hb dX0_codePicture_192 (by decide) ?_
              obtain rfl := Option.some.inj hF
              exact J108 _ _ _ hP hD hS (lv_sub hl [0, 1, 2, 3, 4, 5, 6, 7] rfl)
          · rw [if_pos c106] at hF
            refine lv_aload_n hx hb dX0_codePicture_156 rfl (lv_at hl 7 rfl) ?_
            refine va_get (D := D) (ci := 0) (v := va_re ad72 (y69.2.2 a 3)) (C := RX0) (T := TX0) (N := 21) hx hb hts (by decide +kernel) hown hK hP a (wld_o ct ad72 (xt G L71) y69.2 hc hk (by decide)) rfl 3 (by decide) (hts (.fieldLink RX0 36 "VideoSuite$Coder" "work" "LVideoSuite$Work;") (by decide +kernel)) (fun _ h9 => h9) rfl dX0_codePicture_157 ?_
            obtain ⟨b112, ho112, hc112, hk112, hF⟩ := dr_some hF
            refine W_st (st' := [.ref (ad72 b112)]) (by rw [va_some ho112]) ?_
            refine va_get (D := D) (ci := 9) (v := va_re ad72 (y69.2.2 b112 6)) (C := RX9) (T := TX9) (N := 20) hx hb hts (by decide +kernel) hown hK hP b112 (wld_o ct ad72 (xt G L71) y69.2 hc112 hk112 (by decide)) rfl 6 (by decide) (hts (.fieldLink RX0 216 "VideoSuite$Work" "info" "[I") (by decide +kernel)) (fun _ h9 => h9) rfl dX0_codePicture_160 ?_
            refine lv_bipush (v := (8 : Int32)) hx hb dX0_codePicture_163 (by decide) ?_
            refine lv_iload hx hb dX0_codePicture_165 (lv_at hl 0 rfl) ?_
            refine lv_imul hx hb dX0_codePicture_167 ?_
            obtain ⟨x113, ex113, hF⟩ := ltt_some hF
            refine lv_topi (fun zx113 ezx113 => ?_)
            obtain rfl : x113 = zx113 := ex113.trans ezx113.symm
            refine lv_iconst (v := (0 : Int32)) hx hb dX0_codePicture_168 (by decide) ?_
            refine lv_iadd hx hb dX0_codePicture_169 ?_
            obtain ⟨x114, ex114, hF⟩ := ltt_some hF
            refine lv_topi (fun zx114 ezx114 => ?_)
            obtain rfl : x114 = zx114 := ex114.trans ezx114.symm
            refine lv_iconst (v := (2 : Int32)) hx hb dX0_codePicture_170 (by decide) ?_
            obtain ⟨b115, ho115, hc115, hk115, hF⟩ := dr_some hF
            refine W_st (st' := [.int (2 : Int32), .int x114, .ref (ad72 b115)]) (by rw [va_some ho115]) ?_
            obtain ⟨hvc, hF⟩ := chk_some hF
            refine va_iast hx hb hK hP hD hS b115 1 (wld_i ct ad72 (xt G L71) y69.2 hc115 hk115) rfl hvc dX0_codePicture_171 (fun H locs hP hD hS => ?_)
            obtain ⟨M116, eM116, hF⟩ := ltt_some hF
            rw [set_i ct ad72 (xt G L71) y69.2 hc115 hk115, ← eM116] at hP hD
            refine lv_goto (tgt := 201) hx hb dX0_codePicture_172 (by decide) ?_
            obtain rfl := Option.some.inj hF
            exact J75 _ _ _ hP hD hS (lv_sub hl [0, 1, 2, 3, 4, 5, 6, 7] rfl)
        clear hF
        obtain ⟨w117, hw117⟩ : ∃ z, z = y69 := ⟨_, rfl⟩
        have hF := hy69
        rw [← hw117] at hF
        clear hy69
        have hT : L71 = s38.1 ++ w117.1 := by rw [eL71, hw117]
        have h2 : y69.2 = w117.2 := by rw [hw117]
        have hbl := hbl71
        refine lv_if_eq (tgt := 145) hx hb dX0_codePicture_132 (by decide) (fun c118 => ?_) (fun c118 => ?_)
        · rw [if_pos c118] at hF
          obtain rfl := Option.some.inj hF
          have e1 : L71 = s38.1 := by rw [hT]; exact List.append_nil _
          have e2 : y69.2 = y68.1 := h2
          rw [e1] at J69
          try rw [e2] at J69
          exact J69 _ hag _ _ _ hP hD hS (lv_sub hl [0, 1, 2, 3, 4, 5, 6, 7] rfl)
        · rw [if_neg c118] at hF
          refine lv_aload_n hx hb dX0_codePicture_135 rfl (lv_at hl 7 rfl) ?_
          refine lv_iload hx hb dX0_codePicture_136 (lv_at hl 0 rfl) ?_
          obtain ⟨y119, hy119, hF⟩ := bnd_some hF
          have hf9 := wA_in hD hA9 hS
          refine va_callv (va_runV (As := [.int s38.2.1]) (rest := []) ⟨hx, hb, hml, hown, hts⟩ (kX0_beginSlice l D ct ad62 Z (xt G s38.1) y68.1 H.size a s38.2.1 y119 hc hk hy119) (cwV 1 hts gX0_codePicture_X0_beginSlice rfl rfl rfl (by decide +kernel) ⟨Nat.le_of_ble_eq_true rfl, Nat.le_of_ble_eq_true rfl⟩) ⟨fun a U g mk q => by obtain ⟨q0, q1, qP, qK, qD, qZ, qN⟩ := q; exact ⟨q0, q1, qP, va_K.moved (u := U) (U := U.calling g mk a) (Vm.Alike.refl U.vm) qK, qD, sF.moved (u := U) (U := U.calling g mk a) (Vm.Alike.refl U.vm) qZ, nF.same rfl qN⟩, va_recv hK hP (ci := 0) (q0 := a) rfl (wld_o ct ad62 (xt G s38.1) y68.1 hc hk (by decide)), fun U hU hW => ⟨rfl, by rw [hU], by rw [hU]; exact hP, va_K.moved hW.alike hK, hD.weaken (fun _ _ _ _ => trivial), by rw [hU]; exact ((hZ.kept hS.2.1).narrow hf9).moved hW.alike, hN.warm hW⟩⟩ rfl rfl hl.1 rfl (lv_room (Nat.le_of_ble_eq_true rfl)) dX0_codePicture_138 (room_d hT hbl)) hS (fun q _ h => hf9 q h) hf9 (fun u t H locs ht hvm hw hB hz1 hk1 hS => ?_)
          obtain ⟨hP, hK9, hD9⟩ := hB
          rw [ht] at hP
          refine W_cs (k := (s38.1 : NN).length) (n := wt s38.1) rfl rfl ?_
          have hD := hD9.weaken (fun _ q _ h => hf9 q.1 h)
          refine lv_aload_n hx hb dX0_codePicture_141 rfl (lv_at hl 7 rfl) ?_
          obtain ⟨y120, hy120, hF⟩ := bnd_some hF
          obtain ⟨w121, hF, ew121⟩ := app_some hF
          obtain ⟨L122, eL122, hF⟩ := ltt_some hF
          have hT122 : L71 = (s38.1 ++ y120.1) ++ w121.1 := by rw [hT, ew121]; simp only [List.append_assoc]
          have hf9 := wA_in hD hA9 hS
          refine va_callv (va_runV (As := []) (rest := []) ⟨hx, hb, hml, hown, hts⟩ (kX0_writeHeader l D ct ad62 Z (xt G s38.1) y119 _ a y120 hc hk hy120) (cwV 0 hts gX0_codePicture_X0_writeHeader rfl rfl rfl (by decide +kernel) ⟨Nat.le_of_ble_eq_true rfl, Nat.le_of_ble_eq_true rfl⟩) ⟨fun a U g mk q => by obtain ⟨q0, q1, qP, qK, qD, qZ, qN⟩ := q; exact ⟨q0, q1, qP, va_K.moved (u := U) (U := U.calling g mk a) (Vm.Alike.refl U.vm) qK, qD, sF.moved (u := U) (U := U.calling g mk a) (Vm.Alike.refl U.vm) qZ, nF.same rfl qN⟩, va_recv hK hP (ci := 0) (q0 := a) rfl (wld_o ct ad62 (xt G s38.1) y119 hc hk (by decide)), fun U hU hW => ⟨rfl, by rw [hU], by rw [hU]; exact hP, va_K.moved hW.alike hK, hD.weaken (fun _ _ _ _ => trivial), by rw [hU]; exact ((hZ.kept hS.2.1).narrow hf9).moved hW.alike, hN.warm hW⟩⟩ rfl rfl hl.1 rfl (lv_room (Nat.le_of_ble_eq_true rfl)) dX0_codePicture_142 (room_s hT122 hbl)) hS (fun q _ h => hf9 q h) hf9 (fun ad123 t H locs ht hvm hw hB hz1 hk1 hS => ?_)
          have hn124 := hw
          obtain ⟨hP, hK9, hD9⟩ := hB
          rw [ht] at hP
          have hD := hD9.weaken (fun _ q _ h => hf9 q.1 h)
          rw [xt_xt, ← eL122] at hP hD
          refine W_cs (k := L122.length) (n := wt L122) (by rw [eL122]; exact (len_s s38.1 y120.1).symm) (by rw [eL122]; exact (wt_app s38.1 y120.1).symm) ?_
          have hT : L71 = L122 ++ w121.1 := by rw [hT122, eL122]
          have h2 : y69.2 = w121.2 := by rw [h2, ew121]
          have hl := lv_sub (l' := [(10, .int s38.2.1), (9, .int x30), (7, .int s19.2.1), (6, .int x9), (5, .int x8), (4, .int x7), (3, .int x5), (0, .ref (ad62 a))]) hl [0, 1, 2, 3, 4, 5, 6, 7] rfl
          have e9 : ([(10, .int s38.2.1), (9, .int x30), (7, .int s19.2.1), (6, .int x9), (5, .int x8), (4, .int x7), (3, .int x5), (0, .ref (ad62 a))] : List (Nat × Value)) = [(10, .int s38.2.1), (9, .int x30), (7, .int s19.2.1), (6, .int x9), (5, .int x8), (4, .int x7), (3, .int x5), (0, .ref (ad123 a))] := (by first | rfl | simp only [hn124 a hc])
          rw [e9] at hl
          clear e9
          have hk : (xt G L122).2.1 a = 0 := by rw [eL122]; exact xt_k _ hc hk
          have hc : a < (xt G L122).1 := by rw [eL122]; exact xt_l _ hc
          have hk2 : (xt G L122).2.1 b2 = 13 := by rw [eL122]; exact xt_k _ hc2 hk2
          have hc2 : b2 < (xt G L122).1 := by rw [eL122]; exact xt_l _ hc2
          have hk6 : (xt G L122).2.1 b6 = 10 := by rw [eL122]; exact xt_k _ hc6 hk6
          have hc6 : b6 < (xt G L122).1 := by rw [eL122]; exact xt_l _ hc6
          have hk31 : (xt G L122).2.1 b31 = 10 := by rw [eL122]; exact xt_k _ hc31 hk31
          have hc31 : b31 < (xt G L122).1 := by rw [eL122]; exact xt_l _ hc31
          have hk33 : (xt G L122).2.1 b33 = 10 := by rw [eL122]; exact xt_k _ hc33 hk33
          have hc33 : b33 < (xt G L122).1 := by rw [eL122]; exact xt_l _ hc33
          have hag := agr_t (xt_ge _ _) hag hn124
          obtain rfl := Option.some.inj hF
          have e1 : L71 = L122 := by rw [hT]; exact List.append_nil _
          have e2 : y69.2 = y120.2 := h2
          rw [e1] at J69
          try rw [e2] at J69
          exact J69 _ hag _ _ _ hP hD hS (lv_sub hl [0, 1, 2, 3, 4, 5, 6, 7] rfl)
  clear hF
  have hF := hy10
  clear hy10
  refine lv_icmp_ne (tgt := 52) hx hb dX0_codePicture_45 (by decide) (fun c125 => ?_) (fun c125 => ?_)
  · rw [if_neg c125] at hF
    refine lv_iload_n hx hb dX0_codePicture_52 rfl (lv_at hl 6 rfl) ?_
    obtain ⟨y126, hy126, hF⟩ := bnd_some hF
    have J126 : ∀ (H : Heap) (locs : List Loc) (ls : Array Slot), va_P D classes (wld ct ad (xt G []) M) H → va_D A (wld ct ad (xt G []) M) → va_S A s.heap H locs → lv_has ls 12 [(6, .int x9), (5, .int x8), (4, .int x7), (3, .int x5), (0, .ref (ad a)), (1, .int p0), (2, .int p1)] → W p l e (headSpec wsX0_codePicture ({ frames := 8, cells := y.1.length, slots := wt y.1, locals := 241 })).room s m ([.ref (ad a), .int p0, .int p1] : List Value).toArray below meth c H locs ([] : NN).length (wt []) (MQ below (va_Qv (fun (u : Nat → Nat) => agr G.1 ad u) (fun u t => kE D ct u (xt G y.1) A y.2 t) A) ([.ref (ad a), .int p0, .int p1] : List Value).toArray s y.1.length (wt y.1) A) (F0 m 61 ls [.int y126, .int (3 : Int32), va_re ad (M.2 a 1)]) := by
      intro H locs ls hP hD hS hl
      obtain rfl := Option.some.inj hF
      exact J10 _ _ _ hP hD hS (lv_sub hl [0, 1, 2, 3, 4, 5, 6] rfl)
    clear hF
    have hF := hy126
    clear hy126
    refine lv_if_ne (tgt := 60) hx hb dX0_codePicture_53 (by decide) (fun c127 => ?_) (fun c127 => ?_)
    · rw [if_neg c127] at hF
      refine lv_iconst (v := (2 : Int32)) hx hb dX0_codePicture_60 (by decide) ?_
      obtain rfl := Option.some.inj hF
      exact J126 _ _ _ hP hD hS (lv_sub hl [0, 1, 2, 3, 4, 5, 6] rfl)
    · rw [if_pos c127] at hF
      refine lv_iconst (v := (1 : Int32)) hx hb dX0_codePicture_56 (by decide) ?_
      refine lv_goto (tgt := 61) hx hb dX0_codePicture_57 (by decide) ?_
      obtain rfl := Option.some.inj hF
      exact J126 _ _ _ hP hD hS (lv_sub hl [0, 1, 2, 3, 4, 5, 6] rfl)
  · rw [if_pos c125] at hF
    refine lv_iconst (v := (0 : Int32)) hx hb dX0_codePicture_48 (by decide) ?_
    refine lv_goto (tgt := 61) hx hb dX0_codePicture_49 (by decide) ?_
    obtain rfl := Option.some.inj hF
    exact J10 _ _ _ hP hD hS (lv_sub hl [0, 1, 2, 3, 4, 5, 6] rfl)
theorem ggX11_encode_X0_isOpen : GoodIn wsX11_encode wsX0_isOpen := goodIn_r _ [11, 12, 1049, 1050, 1051, 1052, 1053, 1054, 1055, 1056, 1057, 1058, 1059, 1060, 1061, 1062, 1063, 1064, 1065, 1066, 1067, 1068, 1069] (by decide +kernel) (by decide +kernel)
set_option maxRecDepth 20000 in
theorem gX11_encode_X0_isOpen : GoodIn wsX11_encode (wsV RX11 324 RX0 yX0_isOpen wsX0_isOpen) := goodIn_app (goodIn_of _ (by decide +kernel)) ggX11_encode_X0_isOpen
set_option maxRecDepth 20000 in
theorem ggX11_encode_X0_isSpent : GoodIn wsX11_encode wsX0_isSpent := goodIn_r _ [16, 17, 18, 19, 20, 21, 22, 1049, 1050, 1051, 1052, 1053, 1054, 1055, 1056, 1057, 1058, 1059, 1060, 1061, 1062, 1063, 1064, 1065, 1066, 1067, 1068, 1069, 1070, 1071, 1072, 1073, 1074, 1075, 1076, 1077, 1078, 1079, 1080, 1081, 1082, 1083, 1084, 1085, 1086, 1087, 1088, 1089] (by decide +kernel) (by decide +kernel)
set_option maxRecDepth 20000 in
theorem gX11_encode_X0_isSpent : GoodIn wsX11_encode (wsV RX11 350 RX0 yX0_isSpent wsX0_isSpent) := goodIn_app (goodIn_of _ (by decide +kernel)) ggX11_encode_X0_isSpent
set_option maxRecDepth 20000 in
theorem ggX11_encode_X0_hold : GoodIn wsX11_encode wsX0_hold := goodIn_r _ [26, 27, 28, 29, 30, 31, 32, 17, 33, 34, 35, 10, 36, 12, 37, 38, 39, 40, 1049, 1050, 1051, 1052, 1053, 1054, 1055, 1056, 1057, 1058, 1059, 1060, 1061, 1062, 1063, 1064, 1065, 1066, 1067, 1068, 1069] (by decide +kernel) (by decide +kernel)
set_option maxRecDepth 20000 in
theorem gX11_encode_X0_hold : GoodIn wsX11_encode (wsV RX11 355 RX0 yX0_hold wsX0_hold) := goodIn_app (goodIn_of _ (by decide +kernel)) ggX11_encode_X0_hold
set_option maxRecDepth 20000 in
theorem ggX11_encode_X0_opensAnew : GoodIn wsX11_encode wsX0_opensAnew := goodIn_r _ [44, 17, 12, 1049, 1050, 1051, 1052, 1053, 1054, 1055, 1056, 1057, 1058, 1059, 1060, 1061, 1062, 1063, 1064, 1065, 1066, 1067, 1068, 1069] (by decide +kernel) (by decide +kernel)
set_option maxRecDepth 20000 in
theorem gX11_encode_X0_opensAnew : GoodIn wsX11_encode (wsV RX11 358 RX0 yX0_opensAnew wsX0_opensAnew) := goodIn_app (goodIn_of _ (by decide +kernel)) ggX11_encode_X0_opensAnew
set_option maxRecDepth 20000 in
theorem ggX11_encode_X0_codePicture : GoodIn wsX11_encode wsX0_codePicture := goodIn_r _ [48, 12, 18, 19, 21, 49, 50, 51, 52, 53, 54, 55, 10, 56, 17, 28, 57, 58, 59, 60, 61, 62, 63, 27, 64, 65, 66, 67, 68, 69, 70, 71, 72, 73, 74, 75, 76, 77, 78, 79, 80, 81, 82, 83, 84, 85, 86, 87, 88, 89, 90, 91, 92, 93, 94, 95, 96, 97, 98, 99, 100, 101, 102, 103, 104, 105, 106, 107, 108, 109, 110, 111, 112, 113, 114, 115, 116, 117, 118, 119, 120, 121, 122, 123, 124, 125, 126, 127, 22, 128, 129, 130, 131, 132, 133, 134, 135, 136, 137, 138, 139, 140, 141, 142, 143, 144, 145, 146, 147, 148, 149, 150, 151, 152, 153, 154, 155, 156, 157, 158, 159, 160, 161, 162, 163, 164, 165, 166, 167, 168, 169, 170, 171, 172, 173, 174, 175, 176, 177, 178, 179, 180, 181, 182, 183, 184, 185, 186, 187, 188, 189, 190, 191, 192, 193, 194, 195, 196, 197, 198, 199, 200, 201, 202, 203, 204, 205, 206, 207, 208, 209, 210, 211, 212, 213, 214, 215, 216, 217, 218, 219, 220, 221, 222, 223, 224, 225, 226, 227, 228, 229, 230, 231, 232, 233, 234, 235, 236, 237, 238, 239, 240, 241, 242, 243, 244, 245, 246, 247, 248, 249, 250, 251, 252, 253, 254, 255, 256, 30, 31, 32, 257, 258, 259, 260, 261, 262, 263, 264, 265, 266, 267, 268, 269, 270, 271, 272, 273, 274, 275, 276, 277, 278, 279, 280, 281, 282, 283, 284, 285, 286, 287, 288, 289, 290, 291, 292, 293, 294, 295, 296, 297, 298, 299, 300, 301, 302, 303, 304, 305, 306, 307, 308, 309, 310, 311, 312, 313, 314, 315, 316, 317, 318, 319, 320, 321, 322, 323, 324, 325, 326, 327, 328, 329, 330, 331, 332, 333, 334, 335, 336, 337, 338, 339, 340, 341, 342, 343, 344, 345, 346, 347, 348, 349, 350, 351, 352, 353, 354, 355, 356, 357, 358, 359, 360, 361, 362, 363, 364, 365, 366, 367, 368, 369, 370, 371, 372, 373, 374, 375, 376, 377, 378, 379, 380, 381, 382, 383, 384, 385, 386, 387, 388, 389, 390, 391, 392, 393, 394, 395, 396, 397, 398, 399, 400, 401, 402, 403, 404, 405, 406, 407, 408, 409, 410, 411, 412, 413, 414, 415, 416, 417, 418, 419, 420, 421, 422, 423, 424, 425, 426, 427, 428, 429, 430, 431, 432, 433, 434, 435, 436, 437, 438, 439, 440, 441, 442, 443, 444, 445, 446, 447, 448, 449, 450, 451, 452, 453, 454, 455, 456, 457, 458, 459, 460, 461, 462, 463, 464, 465, 466, 467, 468, 469, 470, 471, 472, 473, 474, 475, 476, 477, 478, 479, 480, 481, 482, 483, 484, 485, 486, 487, 488, 489, 490, 491, 492, 493, 494, 495, 496, 497, 498, 499, 500, 501, 502, 503, 504, 505, 506, 507, 508, 509, 510, 511, 512, 513, 514, 515, 516, 517, 518, 519, 520, 521, 522, 523, 524, 525, 526, 527, 528, 529, 530, 531, 532, 533, 534, 535, 536, 537, 538, 539, 540, 541, 542, 543, 544, 545, 546, 547, 548, 549, 550, 551, 552, 553, 554, 555, 556, 557, 558, 559, 560, 561, 562, 563, 564, 565, 566, 567, 568, 569, 570, 571, 572, 573, 574, 575, 576, 577, 578, 579, 580, 581, 582, 583, 584, 585, 586, 587, 588, 589, 590, 591, 592, 593, 594, 595, 596, 597, 598, 599, 600, 601, 602, 603, 604, 605, 606, 607, 608, 609, 610, 611, 612, 613, 614, 615, 29, 616, 617, 618, 619, 620, 621, 622, 623, 624, 625, 626, 627, 628, 629, 630, 631, 632, 633, 634, 635, 636, 637, 638, 639, 640, 641, 642, 643, 644, 645, 646, 647, 648, 649, 650, 651, 652, 653, 654, 655, 656, 657, 658, 659, 660, 661, 662, 663, 664, 665, 666, 667, 668, 669, 670, 671, 672, 673, 674, 675, 676, 677, 678, 679, 680, 681, 682, 683, 684, 685, 686, 687, 688, 689, 690, 691, 692, 693, 694, 695, 696, 697, 698, 699, 700, 701, 702, 703, 704, 705, 706, 707, 708, 709, 710, 711, 712, 713, 714, 715, 716, 717, 718, 719, 720, 721, 722, 723, 724, 725, 726, 727, 728, 729, 730, 731, 732, 733, 734, 735, 736, 737, 738, 739, 740, 741, 742, 743, 744, 745, 746, 747, 748, 749, 750, 751, 752, 753, 754, 755, 756, 757, 758, 759, 760, 761, 762, 763, 764, 765, 766, 767, 768, 769, 770, 771, 772, 773, 774, 775, 776, 777, 778, 779, 780, 781, 782, 783, 784, 785, 786, 787, 788, 789, 790, 791, 792, 793, 794, 795, 796, 797, 798, 799, 800, 801, 802, 803, 804, 805, 806, 807, 808, 809, 810, 811, 812, 813, 814, 815, 816, 817, 818, 819, 820, 821, 822, 823, 824, 825, 826, 827, 828, 829, 830, 831, 832, 833, 834, 835, 836, 837, 838, 839, 840, 841, 842, 843, 844, 845, 846, 847, 848, 849, 850, 851, 852, 853, 854, 855, 856, 857, 858, 859, 860, 861, 862, 863, 864, 865, 866, 867, 868, 869, 870, 871, 872, 873, 874, 875, 876, 877, 878, 879, 880, 881, 882, 883, 884, 885, 886, 887, 888, 889, 890, 891, 892, 893, 894, 895, 896, 897, 898, 899, 900, 901, 902, 903, 904, 905, 906, 907, 908, 909, 910, 911, 912, 913, 914, 915, 916, 917, 918, 919, 920, 921, 922, 923, 924, 925, 926, 927, 928, 929, 930, 931, 932, 933, 934, 935, 936, 937, 938, 939, 940, 941, 942, 943, 944, 945, 946, 947, 948, 949, 950, 951, 952, 953, 954, 955, 956, 957, 958, 959, 960, 961, 962, 963, 964, 965, 966, 967, 968, 969, 970, 971, 972, 973, 974, 975, 976, 977, 978, 979, 980, 981, 982, 983, 984, 985, 986, 987, 988, 989, 990, 991, 992, 993, 994, 995, 996, 997, 998, 999, 1000, 1001, 1002, 1003, 1004, 1005, 1006, 1007, 1008, 1009, 1010, 1011, 1012, 1013, 1014, 1015, 1016, 1017, 1018, 1019, 1020, 1021, 1022, 1023, 1024, 1025, 1026, 1027, 1028, 1029, 1030, 1031, 1032, 1033, 1034, 1035, 1036, 1037, 1038, 1039, 1040, 1041, 1042, 1043, 1049, 1050, 1051, 1052, 1053, 1054, 1055, 1056, 1057, 1058, 1059, 1060, 1061, 1062, 1063, 1064, 1065, 1066, 1067, 1068, 1069, 1070, 1071, 1072, 1073, 1074, 1075, 1076, 1077, 1078, 1079, 1080, 1081, 1082, 1083, 1084, 1085, 1086, 1087, 1088, 1089, 1090, 1091, 1092, 1093, 1094, 1095, 1096, 1097, 1098, 1099, 1100, 1101, 1102, 1103, 1104, 1105, 1106, 1107, 1108, 1109, 1110, 1111, 1112, 1113, 1114, 1115, 1116, 1117, 1118, 1119, 1120, 1121, 1122, 1123, 1124, 1125, 1126, 1127, 1128, 1129, 1130, 1131, 1132, 1133, 1134, 1135, 1136, 1137, 1138, 1139, 1140, 1141, 1142, 1143, 1144, 1145, 1146, 1147, 1148, 1149, 1150, 1151, 1152, 1153, 1154, 1155, 1156, 1157, 1158, 1159, 1160, 1161, 1162, 1163, 1164, 1165, 1166, 1167, 1168, 1169, 1170, 1171, 1172, 1173] (by decide +kernel) (by decide +kernel)
set_option maxRecDepth 20000 in
theorem gX11_encode_X0_codePicture : GoodIn wsX11_encode (wsV RX11 364 RX0 yX0_codePicture wsX0_codePicture) := goodIn_app (goodIn_of _ (by decide +kernel)) ggX11_encode_X0_codePicture
theorem dX11_encode_0 : decode cX11_encode 0 = .ok (.aload_n 0, 1) := by decide +kernel
theorem dX11_encode_1 : decode cX11_encode 1 = .ok (.getfield 31, 3) := by decide +kernel
theorem dX11_encode_4 : decode cX11_encode 4 = .ok (.invokevirtual 324, 3) := by decide +kernel
theorem dX11_encode_7 : decode cX11_encode 7 = .ok (.ifCond .eq 13, 3) := by decide +kernel
theorem dX11_encode_10 : decode cX11_encode 10 = .ok (.aload_n 0, 1) := by decide +kernel
theorem dX11_encode_11 : decode cX11_encode 11 = .ok (.getfield 31, 3) := by decide +kernel
theorem dX11_encode_14 : decode cX11_encode 14 = .ok (.invokevirtual 350, 3) := by decide +kernel
theorem dX11_encode_17 : decode cX11_encode 17 = .ok (.ifCond .eq 14, 3) := by decide +kernel
theorem dX11_encode_20 : decode cX11_encode 20 = .ok (.new 40, 3) := by decide +kernel
theorem dX11_encode_23 : decode cX11_encode 23 = .ok (.dup, 1) := by decide +kernel
theorem dX11_encode_24 : decode cX11_encode 24 = .ok (.ldc_w 353, 3) := by decide +kernel
theorem dX11_encode_27 : decode cX11_encode 27 = .ok (.invokespecial 44, 3) := by decide +kernel
theorem dX11_encode_30 : decode cX11_encode 30 = .ok (.athrow, 1) := by decide +kernel
theorem dX11_encode_31 : decode cX11_encode 31 = .ok (.aload_n 0, 1) := by decide +kernel
theorem dX11_encode_32 : decode cX11_encode 32 = .ok (.getfield 31, 3) := by decide +kernel
theorem dX11_encode_35 : decode cX11_encode 35 = .ok (.invokevirtual 355, 3) := by decide +kernel
theorem dX11_encode_38 : decode cX11_encode 38 = .ok (.aload_n 0, 1) := by decide +kernel
theorem dX11_encode_39 : decode cX11_encode 39 = .ok (.getfield 31, 3) := by decide +kernel
theorem dX11_encode_42 : decode cX11_encode 42 = .ok (.invokevirtual 358, 3) := by decide +kernel
theorem dX11_encode_45 : decode cX11_encode 45 = .ok (.ifCond .eq 55, 3) := by decide +kernel
theorem dX11_encode_48 : decode cX11_encode 48 = .ok (.aload_n 0, 1) := by decide +kernel
theorem dX11_encode_49 : decode cX11_encode 49 = .ok (.getfield 31, 3) := by decide +kernel
theorem dX11_encode_52 : decode cX11_encode 52 = .ok (.getfield 361, 3) := by decide +kernel
theorem dX11_encode_55 : decode cX11_encode 55 = .ok (.iconst 1, 1) := by decide +kernel
theorem dX11_encode_56 : decode cX11_encode 56 = .ok (.isub, 1) := by decide +kernel
theorem dX11_encode_57 : decode cX11_encode 57 = .ok (.istore_n 1, 1) := by decide +kernel
theorem dX11_encode_58 : decode cX11_encode 58 = .ok (.iconst 0, 1) := by decide +kernel
theorem dX11_encode_59 : decode cX11_encode 59 = .ok (.istore_n 2, 1) := by decide +kernel
theorem dX11_encode_60 : decode cX11_encode 60 = .ok (.iload_n 2, 1) := by decide +kernel
theorem dX11_encode_61 : decode cX11_encode 61 = .ok (.iload_n 1, 1) := by decide +kernel
theorem dX11_encode_62 : decode cX11_encode 62 = .ok (.if_icmp .ge 18, 3) := by decide +kernel
theorem dX11_encode_65 : decode cX11_encode 65 = .ok (.aload_n 0, 1) := by decide +kernel
theorem dX11_encode_66 : decode cX11_encode 66 = .ok (.getfield 31, 3) := by decide +kernel
theorem dX11_encode_69 : decode cX11_encode 69 = .ok (.iload_n 2, 1) := by decide +kernel
theorem dX11_encode_70 : decode cX11_encode 70 = .ok (.iconst 0, 1) := by decide +kernel
theorem dX11_encode_71 : decode cX11_encode 71 = .ok (.invokevirtual 364, 3) := by decide +kernel
theorem dX11_encode_74 : decode cX11_encode 74 = .ok (.iinc 2 1, 3) := by decide +kernel
theorem dX11_encode_77 : decode cX11_encode 77 = .ok (.goto (-17), 3) := by decide +kernel
theorem dX11_encode_80 : decode cX11_encode 80 = .ok (.aload_n 0, 1) := by decide +kernel
theorem dX11_encode_81 : decode cX11_encode 81 = .ok (.getfield 31, 3) := by decide +kernel
theorem dX11_encode_84 : decode cX11_encode 84 = .ok (.iload_n 1, 1) := by decide +kernel
theorem dX11_encode_85 : decode cX11_encode 85 = .ok (.iconst 2, 1) := by decide +kernel
theorem dX11_encode_86 : decode cX11_encode 86 = .ok (.invokevirtual 364, 3) := by decide +kernel
theorem dX11_encode_89 : decode cX11_encode 89 = .ok (.aload_n 0, 1) := by decide +kernel
theorem dX11_encode_90 : decode cX11_encode 90 = .ok (.getfield 31, 3) := by decide +kernel
theorem dX11_encode_93 : decode cX11_encode 93 = .ok (.iconst 0, 1) := by decide +kernel
theorem dX11_encode_94 : decode cX11_encode 94 = .ok (.putfield 361, 3) := by decide +kernel
theorem dX11_encode_97 : decode cX11_encode 97 = .ok (.goto 72, 3) := by decide +kernel
theorem dX11_encode_100 : decode cX11_encode 100 = .ok (.aload_n 0, 1) := by decide +kernel
theorem dX11_encode_101 : decode cX11_encode 101 = .ok (.getfield 31, 3) := by decide +kernel
theorem dX11_encode_104 : decode cX11_encode 104 = .ok (.getfield 361, 3) := by decide +kernel
theorem dX11_encode_107 : decode cX11_encode 107 = .ok (.aload_n 0, 1) := by decide +kernel
theorem dX11_encode_108 : decode cX11_encode 108 = .ok (.getfield 31, 3) := by decide +kernel
theorem dX11_encode_111 : decode cX11_encode 111 = .ok (.getfield 367, 3) := by decide +kernel
theorem dX11_encode_114 : decode cX11_encode 114 = .ok (.bipush 6, 2) := by decide +kernel
theorem dX11_encode_116 : decode cX11_encode 116 = .ok (.iaload, 1) := by decide +kernel
theorem dX11_encode_117 : decode cX11_encode 117 = .ok (.if_icmp .le 52, 3) := by decide +kernel
theorem dX11_encode_120 : decode cX11_encode 120 = .ok (.aload_n 0, 1) := by decide +kernel
theorem dX11_encode_121 : decode cX11_encode 121 = .ok (.getfield 31, 3) := by decide +kernel
theorem dX11_encode_124 : decode cX11_encode 124 = .ok (.getfield 361, 3) := by decide +kernel
theorem dX11_encode_127 : decode cX11_encode 127 = .ok (.iconst 1, 1) := by decide +kernel
theorem dX11_encode_128 : decode cX11_encode 128 = .ok (.isub, 1) := by decide +kernel
theorem dX11_encode_129 : decode cX11_encode 129 = .ok (.istore_n 1, 1) := by decide +kernel
theorem dX11_encode_130 : decode cX11_encode 130 = .ok (.aload_n 0, 1) := by decide +kernel
theorem dX11_encode_131 : decode cX11_encode 131 = .ok (.getfield 31, 3) := by decide +kernel
theorem dX11_encode_134 : decode cX11_encode 134 = .ok (.iload_n 1, 1) := by decide +kernel
theorem dX11_encode_135 : decode cX11_encode 135 = .ok (.iconst 0, 1) := by decide +kernel
theorem dX11_encode_136 : decode cX11_encode 136 = .ok (.invokevirtual 364, 3) := by decide +kernel
theorem dX11_encode_139 : decode cX11_encode 139 = .ok (.iconst 0, 1) := by decide +kernel
theorem dX11_encode_140 : decode cX11_encode 140 = .ok (.istore_n 2, 1) := by decide +kernel
theorem dX11_encode_141 : decode cX11_encode 141 = .ok (.iload_n 2, 1) := by decide +kernel
theorem dX11_encode_142 : decode cX11_encode 142 = .ok (.iload_n 1, 1) := by decide +kernel
theorem dX11_encode_143 : decode cX11_encode 143 = .ok (.if_icmp .ge 18, 3) := by decide +kernel
theorem dX11_encode_146 : decode cX11_encode 146 = .ok (.aload_n 0, 1) := by decide +kernel
theorem dX11_encode_147 : decode cX11_encode 147 = .ok (.getfield 31, 3) := by decide +kernel
theorem dX11_encode_150 : decode cX11_encode 150 = .ok (.iload_n 2, 1) := by decide +kernel
theorem dX11_encode_151 : decode cX11_encode 151 = .ok (.iconst 1, 1) := by decide +kernel
theorem dX11_encode_152 : decode cX11_encode 152 = .ok (.invokevirtual 364, 3) := by decide +kernel
theorem dX11_encode_155 : decode cX11_encode 155 = .ok (.iinc 2 1, 3) := by decide +kernel
theorem dX11_encode_158 : decode cX11_encode 158 = .ok (.goto (-17), 3) := by decide +kernel
theorem dX11_encode_161 : decode cX11_encode 161 = .ok (.aload_n 0, 1) := by decide +kernel
theorem dX11_encode_162 : decode cX11_encode 162 = .ok (.getfield 31, 3) := by decide +kernel
theorem dX11_encode_165 : decode cX11_encode 165 = .ok (.iconst 0, 1) := by decide +kernel
theorem dX11_encode_166 : decode cX11_encode 166 = .ok (.putfield 361, 3) := by decide +kernel
theorem dX11_encode_169 : decode cX11_encode 169 = .ok (.aload_n 0, 1) := by decide +kernel
theorem dX11_encode_170 : decode cX11_encode 170 = .ok (.getfield 31, 3) := by decide +kernel
theorem dX11_encode_173 : decode cX11_encode 173 = .ok (.getfield 370, 3) := by decide +kernel
theorem dX11_encode_176 : decode cX11_encode 176 = .ok (.ireturn, 1) := by decide +kernel
noncomputable def FX11_encode (G : GG) (M : DD) (a : Nat)  : Option (NN × DD × Int32) :=
  dr (xt G []) 0 ((M.2 a 4)) fun b2 =>
  bnd (FX0_isOpen (xt G []) M b2) fun y3 =>
  bnd (if y3.2 = ((0 : Int32)) then (none) else
  (some ())) fun (y4 : Unit) =>
  dr (xt G []) 0 ((y3.1.2 a 4)) fun b5 =>
  bnd (FX0_isSpent (xt G []) y3.1 b5) fun y6 =>
  bnd (if y6.2 = ((0 : Int32)) then (some ()) else
  (none)) fun (y7 : Unit) =>
  dr (xt G []) 0 ((y6.1.2 a 4)) fun b8 =>
  bnd (FX0_hold (xt G []) y6.1 b8) fun y9 =>
  dr (xt G []) 0 ((y9.2 a 4)) fun b10 =>
  bnd (FX0_opensAnew (xt G []) y9 b10) fun y11 =>
  bnd (if y11.2 = ((0 : Int32)) then (dr (xt G []) 0 ((y11.1.2 a 4)) fun b20 =>
  ltt (y11.1.1 b20 10) fun x21 =>
  dr (xt G []) 13 ((y11.1.2 b20 1)) fun b22 =>
  chk (¬ (((6 : Int32)) < 0 ∨ (xt G []).2.2 b22 ≤ ((6 : Int32)).toNatClampNeg)) <|
  ltt (y11.1.1 b22 ((6 : Int32)).toNatClampNeg) fun x23 =>
  bnd (if x21 ≤ x23 then (some ([], y11.1)) else
  (ltt (y11.1.1 b20 10) fun x30 =>
  ltt ((x30 - ((1 : Int32)))) fun x31 =>
  bnd (FX0_codePicture (xt G []) y11.1 b20 x31 ((0 : Int32))) fun y32 =>
  app y32.1 <|
  ltt ([] ++ y32.1) fun L34 =>
  bnd (itrA (fun (s38 : NN × Int32 × DD) => ((if x31 ≤ s38.2.1 then (some ([], .inr ((s38.2.1, s38.2.2)))) else
  (dr (xt G s38.1) 0 ((s38.2.2.2 a 4)) fun b50 =>
  bnd (FX0_codePicture (xt G s38.1) s38.2.2 b50 s38.2.1 ((1 : Int32))) fun y51 =>
  app y51.1 <|
  ltt (s38.1 ++ y51.1) fun L53 =>
  ltt (s38.2.1 + (1 : Int32)) fun x56 =>
  some ([], .inl (L53, (x56, y51.2))))) : Option (NN × ((NN × Int32 × DD) ⊕ (Int32 × DD))))) 1000000 (L34, ((0 : Int32), y32.2))) fun (y37 : NN × Int32 × DD) =>
  app y37.1 <|
  ltt (L34 ++ y37.1) fun L40 =>
  dr (xt G L40) 0 ((y37.2.2.2 a 4)) fun b42 =>
  ltt (uI y37.2.2 b42 10 ((0 : Int32))) fun M43 =>
  some ([], M43))) fun (y24 : NN × DD) =>
  app y24.1 <|
  ltt ([] ++ y24.1) fun L26 =>
  some ([], y24.2)) else
  (dr (xt G []) 0 ((y11.1.2 a 4)) fun b57 =>
  ltt (y11.1.1 b57 10) fun x58 =>
  ltt ((x58 - ((1 : Int32)))) fun x59 =>
  bnd (itrA (fun (s61 : NN × Int32 × DD) => ((if x59 ≤ s61.2.1 then (some ([], .inr ((s61.2.1, s61.2.2)))) else
  (dr (xt G s61.1) 0 ((s61.2.2.2 a 4)) fun b79 =>
  bnd (FX0_codePicture (xt G s61.1) s61.2.2 b79 s61.2.1 ((0 : Int32))) fun y80 =>
  app y80.1 <|
  ltt (s61.1 ++ y80.1) fun L82 =>
  ltt (s61.2.1 + (1 : Int32)) fun x85 =>
  some ([], .inl (L82, (x85, y80.2))))) : Option (NN × ((NN × Int32 × DD) ⊕ (Int32 × DD))))) 1000000 ([], ((0 : Int32), y11.1))) fun (y60 : NN × Int32 × DD) =>
  app y60.1 <|
  ltt ([] ++ y60.1) fun L63 =>
  dr (xt G L63) 0 ((y60.2.2.2 a 4)) fun b65 =>
  bnd (FX0_codePicture (xt G L63) y60.2.2 b65 x59 ((2 : Int32))) fun y66 =>
  app y66.1 <|
  ltt (L63 ++ y66.1) fun L68 =>
  dr (xt G L68) 0 ((y66.2.2 a 4)) fun b71 =>
  ltt (uI y66.2 b71 10 ((0 : Int32))) fun M72 =>
  some ([], M72))) fun (y12 : NN × DD) =>
  app y12.1 <|
  ltt ([] ++ y12.1) fun L14 =>
  dr (xt G L14) 0 ((y12.2.2 a 4)) fun b16 =>
  ltt (y12.2.1 b16 16) fun x17 =>
  some ([], (y12.2, x17))
set_option maxHeartbeats 4000000 in
set_option maxRecDepth 100000 in
theorem kX11_encode (l : Launch) (D : va_G) (ct : CT) (ad : Nat → Nat) (Z : Nat → Nat) (G : GG) (M : DD) (sz : Nat) (a : Nat)  (y : NN × DD × Int32) (hc : a < G.1) (hk : G.2.1 a = 11) (hF : FX11_encode G M a  = some y) : Met l yX11_encode wsX11_encode ({ frames := 9, cells := y.1.length, slots := wt y.1, locals := 272 }) (va_Pc [.ref (ad a)] (kB D ct ad Z G M sz)) (va_Qi (fun (q : Int32) (u : Nat → Nat) => q = y.2.2 ∧ agr G.1 ad u) (fun u t => kE D ct u (xt G y.1) (wA ad G sz) y.2.1 t) (wA ad G sz)) y.1.length (wt y.1) (wA ad G sz) := by
  refine Met.ofW (cc := cX11_encode) (maxL := 3) (ret := (some .int)) (by decide) rfl ?_
  intro p e s m args below meth c s₁ B hml hv
  obtain ⟨rfl, hsz, hP, hK, hD0, hZ, hN⟩ := hv
  have hx := B.exec
  have hb := B.bytes
  have hr := B.returns
  have hts := atoms_spec (ws := wsX11_encode) B.pre
  have hown : s.vm.findClass RX11 = some m.cls := findClass_of_methodNamed B.named
  have hlocks := B.notSynchronized
  subst hsz
  have hD := wD_self (sz := s.heap.size) hD0
  have hA9 : ∀ q, s.heap.size ≤ q → wA ad G s.heap.size q := fun q h => Or.inr h
  generalize hAe : wA ad G s.heap.size = A at hD hA9 hZ ⊢
  have hS : va_S A s.heap s.heap [] := va_S.rf
  have hl := lv_entry ([.ref (ad a)]) (n := 3) (Nat.le_of_ble_eq_true rfl)
  rw [lg_entry_eq]
  generalize (lg_sl ([.ref (ad a)]) ++ List.replicate (3 - (lg_sl ([.ref (ad a)])).length) Slot.unset).toArray = ls at hl ⊢
  have hl : lv_has ls 3 [(0, .ref (ad a))] := hl
  unfold FX11_encode at hF
  rw [← wld_0 ct ad G M] at hP hD
  have hk := xt_k0 hc hk
  have hc := xt_l0 hc
  have hag := agr_rf G.1 ad
  obtain ⟨w0, hw0⟩ : ∃ z, z = y := ⟨_, rfl⟩
  rw [← hw0] at hF
  have hT : y.1 = [] ++ w0.1 := by rw [hw0]; rfl
  have h2 : y.2 = w0.2 := by rw [hw0]
  have hbl : y.1.length ≤ y.1.length ∧ wt y.1 ≤ wt y.1 := ⟨Nat.le_refl _, Nat.le_refl _⟩
  refine lv_aload_n hx hb dX11_encode_0 rfl (lv_at hl 0 rfl) ?_
  refine va_get (D := D) (ci := 11) (v := va_re ad (M.2 a 4)) (C := RX11) (T := TX11) (N := 5) hx hb hts (by decide +kernel) hown hK hP a (wld_o ct ad (xt G []) M hc hk (by decide)) rfl 4 (by decide) (hts (.fieldLink RX11 31 "VideoSuite" "coder" "LVideoSuite$Coder;") (by decide +kernel)) (fun _ h9 => h9) rfl dX11_encode_1 ?_
  obtain ⟨b2, ho2, hc2, hk2, hF⟩ := dr_some hF
  refine W_st (st' := [.ref (ad b2)]) (by rw [va_some ho2]) ?_
  obtain ⟨y3, hy3, hF⟩ := bnd_some hF
  have hf9 := wA_in hD hA9 hS
  refine va_calli (va_runV (As := []) (rest := []) ⟨hx, hb, hml, hown, hts⟩ (kX0_isOpen l D ct ad Z (xt G []) M s.heap.size b2 y3 hc2 hk2 hy3) (cwV 0 hts gX11_encode_X0_isOpen rfl rfl rfl (by decide +kernel) ⟨Nat.le_of_ble_eq_true rfl, Nat.le_of_ble_eq_true rfl⟩) ⟨fun a U g mk q => by obtain ⟨q0, q1, qP, qK, qD, qZ, qN⟩ := q; exact ⟨q0, q1, qP, va_K.moved (u := U) (U := U.calling g mk a) (Vm.Alike.refl U.vm) qK, qD, sF.moved (u := U) (U := U.calling g mk a) (Vm.Alike.refl U.vm) qZ, nF.same rfl qN⟩, va_recv hK hP (ci := 0) (q0 := b2) rfl (wld_o ct ad (xt G []) M hc2 hk2 (by decide)), fun U hU hW => ⟨rfl, by rw [hU], by rw [hU]; exact hP, va_K.moved hW.alike hK, hD.weaken (fun _ _ _ _ => trivial), by rw [hU]; exact ((hZ.kept hS.2.1).narrow hf9).moved hW.alike, hN.warm hW⟩⟩ rfl rfl hl.1 rfl (lv_room (Nat.le_of_ble_eq_true rfl)) dX11_encode_4 (room_d hT hbl)) hS (fun q _ h => hf9 q h) hf9 (fun r u t H locs ht hvm hw hB hz1 hk1 hS => ?_)
  obtain ⟨hP, hK9, hD9⟩ := hB
  rw [ht] at hP
  try dsimp only at hw
  subst hw
  refine W_cs (k := ([] : NN).length) (n := wt []) rfl rfl ?_
  have hD := hD9.weaken (fun _ q _ h => hf9 q.1 h)
  obtain ⟨y4, hy4, hF⟩ := bnd_some hF
  have J4 : ∀ (H : Heap) (locs : List Loc) (ls : Array Slot), va_P D classes (wld ct ad (xt G []) y3.1) H → va_D A (wld ct ad (xt G []) y3.1) → va_S A s.heap H locs → lv_has ls 3 [(0, .ref (ad a))] → W p l e (headSpec wsX11_encode ({ frames := 9, cells := y.1.length, slots := wt y.1, locals := 272 })).room s m ([.ref (ad a)] : List Value).toArray below meth c H locs ([] : NN).length (wt []) (MQ below (va_Qi (fun (q : Int32) (u : Nat → Nat) => q = y.2.2 ∧ agr G.1 ad u) (fun u t => kE D ct u (xt G y.1) A y.2.1 t) A) ([.ref (ad a)] : List Value).toArray s y.1.length (wt y.1) A) (F0 m 10 ls []) := by
    intro H locs ls hP hD hS hl
    refine lv_aload_n hx hb dX11_encode_10 rfl (lv_at hl 0 rfl) ?_
    refine va_get (D := D) (ci := 11) (v := va_re ad (y3.1.2 a 4)) (C := RX11) (T := TX11) (N := 5) hx hb hts (by decide +kernel) hown hK hP a (wld_o ct ad (xt G []) y3.1 hc hk (by decide)) rfl 4 (by decide) (hts (.fieldLink RX11 31 "VideoSuite" "coder" "LVideoSuite$Coder;") (by decide +kernel)) (fun _ h9 => h9) rfl dX11_encode_11 ?_
    obtain ⟨b5, ho5, hc5, hk5, hF⟩ := dr_some hF
    refine W_st (st' := [.ref (ad b5)]) (by rw [va_some ho5]) ?_
    obtain ⟨y6, hy6, hF⟩ := bnd_some hF
    have hf9 := wA_in hD hA9 hS
    refine va_calli (va_runV (As := []) (rest := []) ⟨hx, hb, hml, hown, hts⟩ (kX0_isSpent l D ct ad Z (xt G []) y3.1 H.size b5 y6 hc5 hk5 hy6) (cwV 0 hts gX11_encode_X0_isSpent rfl rfl rfl (by decide +kernel) ⟨Nat.le_of_ble_eq_true rfl, Nat.le_of_ble_eq_true rfl⟩) ⟨fun a U g mk q => by obtain ⟨q0, q1, qP, qK, qD, qZ, qN⟩ := q; exact ⟨q0, q1, qP, va_K.moved (u := U) (U := U.calling g mk a) (Vm.Alike.refl U.vm) qK, qD, sF.moved (u := U) (U := U.calling g mk a) (Vm.Alike.refl U.vm) qZ, nF.same rfl qN⟩, va_recv hK hP (ci := 0) (q0 := b5) rfl (wld_o ct ad (xt G []) y3.1 hc5 hk5 (by decide)), fun U hU hW => ⟨rfl, by rw [hU], by rw [hU]; exact hP, va_K.moved hW.alike hK, hD.weaken (fun _ _ _ _ => trivial), by rw [hU]; exact ((hZ.kept hS.2.1).narrow hf9).moved hW.alike, hN.warm hW⟩⟩ rfl rfl hl.1 rfl (lv_room (Nat.le_of_ble_eq_true rfl)) dX11_encode_14 (room_d hT hbl)) hS (fun q _ h => hf9 q h) hf9 (fun r u t H locs ht hvm hw hB hz1 hk1 hS => ?_)
    obtain ⟨hP, hK9, hD9⟩ := hB
    rw [ht] at hP
    try dsimp only at hw
    subst hw
    refine W_cs (k := ([] : NN).length) (n := wt []) rfl rfl ?_
    have hD := hD9.weaken (fun _ q _ h => hf9 q.1 h)
    obtain ⟨y7, hy7, hF⟩ := bnd_some hF
    have J7 : ∀ (H : Heap) (locs : List Loc) (ls : Array Slot), va_P D classes (wld ct ad (xt G []) y6.1) H → va_D A (wld ct ad (xt G []) y6.1) → va_S A s.heap H locs → lv_has ls 3 [(0, .ref (ad a))] → W p l e (headSpec wsX11_encode ({ frames := 9, cells := y.1.length, slots := wt y.1, locals := 272 })).room s m ([.ref (ad a)] : List Value).toArray below meth c H locs ([] : NN).length (wt []) (MQ below (va_Qi (fun (q : Int32) (u : Nat → Nat) => q = y.2.2 ∧ agr G.1 ad u) (fun u t => kE D ct u (xt G y.1) A y.2.1 t) A) ([.ref (ad a)] : List Value).toArray s y.1.length (wt y.1) A) (F0 m 31 ls []) := by
      intro H locs ls hP hD hS hl
      refine lv_aload_n hx hb dX11_encode_31 rfl (lv_at hl 0 rfl) ?_
      refine va_get (D := D) (ci := 11) (v := va_re ad (y6.1.2 a 4)) (C := RX11) (T := TX11) (N := 5) hx hb hts (by decide +kernel) hown hK hP a (wld_o ct ad (xt G []) y6.1 hc hk (by decide)) rfl 4 (by decide) (hts (.fieldLink RX11 31 "VideoSuite" "coder" "LVideoSuite$Coder;") (by decide +kernel)) (fun _ h9 => h9) rfl dX11_encode_32 ?_
      obtain ⟨b8, ho8, hc8, hk8, hF⟩ := dr_some hF
      refine W_st (st' := [.ref (ad b8)]) (by rw [va_some ho8]) ?_
      obtain ⟨y9, hy9, hF⟩ := bnd_some hF
      have hf9 := wA_in hD hA9 hS
      refine va_callv (va_runV (As := []) (rest := []) ⟨hx, hb, hml, hown, hts⟩ (kX0_hold l D ct ad Z (xt G []) y6.1 H.size b8 y9 hc8 hk8 hy9) (cwV 0 hts gX11_encode_X0_hold rfl rfl rfl (by decide +kernel) ⟨Nat.le_of_ble_eq_true rfl, Nat.le_of_ble_eq_true rfl⟩) ⟨fun a U g mk q => by obtain ⟨q0, q1, qP, qK, qD, qZ, qN⟩ := q; exact ⟨q0, q1, qP, va_K.moved (u := U) (U := U.calling g mk a) (Vm.Alike.refl U.vm) qK, qD, sF.moved (u := U) (U := U.calling g mk a) (Vm.Alike.refl U.vm) qZ, nF.same rfl qN⟩, va_recv hK hP (ci := 0) (q0 := b8) rfl (wld_o ct ad (xt G []) y6.1 hc8 hk8 (by decide)), fun U hU hW => ⟨rfl, by rw [hU], by rw [hU]; exact hP, va_K.moved hW.alike hK, hD.weaken (fun _ _ _ _ => trivial), by rw [hU]; exact ((hZ.kept hS.2.1).narrow hf9).moved hW.alike, hN.warm hW⟩⟩ rfl rfl hl.1 rfl (lv_room (Nat.le_of_ble_eq_true rfl)) dX11_encode_35 (room_d hT hbl)) hS (fun q _ h => hf9 q h) hf9 (fun u t H locs ht hvm hw hB hz1 hk1 hS => ?_)
      obtain ⟨hP, hK9, hD9⟩ := hB
      rw [ht] at hP
      refine W_cs (k := ([] : NN).length) (n := wt []) rfl rfl ?_
      have hD := hD9.weaken (fun _ q _ h => hf9 q.1 h)
      refine lv_aload_n hx hb dX11_encode_38 rfl (lv_at hl 0 rfl) ?_
      refine va_get (D := D) (ci := 11) (v := va_re ad (y9.2 a 4)) (C := RX11) (T := TX11) (N := 5) hx hb hts (by decide +kernel) hown hK hP a (wld_o ct ad (xt G []) y9 hc hk (by decide)) rfl 4 (by decide) (hts (.fieldLink RX11 31 "VideoSuite" "coder" "LVideoSuite$Coder;") (by decide +kernel)) (fun _ h9 => h9) rfl dX11_encode_39 ?_
      obtain ⟨b10, ho10, hc10, hk10, hF⟩ := dr_some hF
      refine W_st (st' := [.ref (ad b10)]) (by rw [va_some ho10]) ?_
      obtain ⟨y11, hy11, hF⟩ := bnd_some hF
      have hf9 := wA_in hD hA9 hS
      refine va_calli (va_runV (As := []) (rest := []) ⟨hx, hb, hml, hown, hts⟩ (kX0_opensAnew l D ct ad Z (xt G []) y9 H.size b10 y11 hc10 hk10 hy11) (cwV 0 hts gX11_encode_X0_opensAnew rfl rfl rfl (by decide +kernel) ⟨Nat.le_of_ble_eq_true rfl, Nat.le_of_ble_eq_true rfl⟩) ⟨fun a U g mk q => by obtain ⟨q0, q1, qP, qK, qD, qZ, qN⟩ := q; exact ⟨q0, q1, qP, va_K.moved (u := U) (U := U.calling g mk a) (Vm.Alike.refl U.vm) qK, qD, sF.moved (u := U) (U := U.calling g mk a) (Vm.Alike.refl U.vm) qZ, nF.same rfl qN⟩, va_recv hK hP (ci := 0) (q0 := b10) rfl (wld_o ct ad (xt G []) y9 hc10 hk10 (by decide)), fun U hU hW => ⟨rfl, by rw [hU], by rw [hU]; exact hP, va_K.moved hW.alike hK, hD.weaken (fun _ _ _ _ => trivial), by rw [hU]; exact ((hZ.kept hS.2.1).narrow hf9).moved hW.alike, hN.warm hW⟩⟩ rfl rfl hl.1 rfl (lv_room (Nat.le_of_ble_eq_true rfl)) dX11_encode_42 (room_d hT hbl)) hS (fun q _ h => hf9 q h) hf9 (fun r u t H locs ht hvm hw hB hz1 hk1 hS => ?_)
      obtain ⟨hP, hK9, hD9⟩ := hB
      rw [ht] at hP
      try dsimp only at hw
      subst hw
      refine W_cs (k := ([] : NN).length) (n := wt []) rfl rfl ?_
      have hD := hD9.weaken (fun _ q _ h => hf9 q.1 h)
      obtain ⟨y12, hy12, hF⟩ := bnd_some hF
      obtain ⟨w13, hF, ew13⟩ := app_some hF
      obtain ⟨L14, eL14, hF⟩ := ltt_some hF
      have hT14 : y.1 = ([] ++ y12.1) ++ w13.1 := by rw [hT, ew13]; simp only [List.append_assoc]
      have hbl14 : L14.length ≤ y.1.length ∧ wt L14 ≤ wt y.1 := by rw [eL14]; exact room_d hT14 hbl
      have J12 : ∀ (ad15 : Nat → Nat), agr G.1 ad ad15 → ∀ (H : Heap) (locs : List Loc) (ls : Array Slot), va_P D classes (wld ct ad15 (xt G L14) y12.2) H → va_D A (wld ct ad15 (xt G L14) y12.2) → va_S A s.heap H locs → lv_has ls 3 [(0, .ref (ad15 a))] → W p l e (headSpec wsX11_encode ({ frames := 9, cells := y.1.length, slots := wt y.1, locals := 272 })).room s m ([.ref (ad a)] : List Value).toArray below meth c H locs (L14 : NN).length (wt L14) (MQ below (va_Qi (fun (q : Int32) (u : Nat → Nat) => q = y.2.2 ∧ agr G.1 ad u) (fun u t => kE D ct u (xt G y.1) A y.2.1 t) A) ([.ref (ad a)] : List Value).toArray s y.1.length (wt y.1) A) (F0 m 169 ls []) := by
        intro ad15 hag H locs ls hP hD hS hl
        have hT : y.1 = L14 ++ w13.1 := by rw [hT14, eL14]
        have h2 : y.2 = w13.2 := by rw [h2, ew13]
        have hk : (xt G L14).2.1 a = 11 := by rw [eL14]; exact xt_k _ hc hk
        have hc : a < (xt G L14).1 := by rw [eL14]; exact xt_l _ hc
        have hk2 : (xt G L14).2.1 b2 = 0 := by rw [eL14]; exact xt_k _ hc2 hk2
        have hc2 : b2 < (xt G L14).1 := by rw [eL14]; exact xt_l _ hc2
        have hk5 : (xt G L14).2.1 b5 = 0 := by rw [eL14]; exact xt_k _ hc5 hk5
        have hc5 : b5 < (xt G L14).1 := by rw [eL14]; exact xt_l _ hc5
        have hk8 : (xt G L14).2.1 b8 = 0 := by rw [eL14]; exact xt_k _ hc8 hk8
        have hc8 : b8 < (xt G L14).1 := by rw [eL14]; exact xt_l _ hc8
        have hk10 : (xt G L14).2.1 b10 = 0 := by rw [eL14]; exact xt_k _ hc10 hk10
        have hc10 : b10 < (xt G L14).1 := by rw [eL14]; exact xt_l _ hc10
        refine lv_aload_n hx hb dX11_encode_169 rfl (lv_at hl 0 rfl) ?_
        refine va_get (D := D) (ci := 11) (v := va_re ad15 (y12.2.2 a 4)) (C := RX11) (T := TX11) (N := 5) hx hb hts (by decide +kernel) hown hK hP a (wld_o ct ad15 (xt G L14) y12.2 hc hk (by decide)) rfl 4 (by decide) (hts (.fieldLink RX11 31 "VideoSuite" "coder" "LVideoSuite$Coder;") (by decide +kernel)) (fun _ h9 => h9) rfl dX11_encode_170 ?_
        obtain ⟨b16, ho16, hc16, hk16, hF⟩ := dr_some hF
        refine W_st (st' := [.ref (ad15 b16)]) (by rw [va_some ho16]) ?_
        refine va_get (D := D) (ci := 0) (v := .int (y12.2.1 b16 16)) (C := RX0) (T := TX0) (N := 21) hx hb hts (by decide +kernel) hown hK hP b16 (wld_o ct ad15 (xt G L14) y12.2 hc16 hk16 (by decide)) rfl 16 (by decide) (hts (.fieldLink RX11 370 "VideoSuite$Coder" "codedCount" "I") (by decide +kernel)) (fun _ h9 => h9) rfl dX11_encode_173 ?_
        obtain ⟨x17, ex17, hF⟩ := ltt_some hF
        refine lv_topi (fun zx17 ezx17 => ?_)
        obtain rfl : x17 = zx17 := ex17.trans ezx17.symm
        obtain rfl := Option.some.inj hF
        have e1 : y.1 = L14 := by rw [hT]; exact List.append_nil _
        have e2 : y.2 = (y12.2, x17) := h2
        refine W.widen (k := y.1.length) (n := wt y.1) (Nat.le_of_eq (by rw [e1])) (Nat.le_of_eq (by rw [e1])) ?_
        exact W.iret (v := x17) hx hb hr (fun t ht hW => ⟨⟨_, ad15, rfl, ⟨by rw [e2], hag⟩, (by unfold kE; rw [e1, e2]; exact ⟨by rw [ht]; exact hP, va_K.moved hW.alike hK, hD⟩)⟩, hS.F ht⟩) hS.2.2 dX11_encode_176
      clear hF
      obtain ⟨w18, hw18⟩ : ∃ z, z = y12 := ⟨_, rfl⟩
      have hF := hy12
      rw [← hw18] at hF
      clear hy12
      have hT : L14 = [] ++ w18.1 := by rw [eL14, hw18]
      have h2 : y12.2 = w18.2 := by rw [hw18]
      have hbl := hbl14
      refine lv_if_eq (tgt := 100) hx hb dX11_encode_45 (by decide) (fun c19 => ?_) (fun c19 => ?_)
      · rw [if_pos c19] at hF
        refine lv_aload_n hx hb dX11_encode_100 rfl (lv_at hl 0 rfl) ?_
        refine va_get (D := D) (ci := 11) (v := va_re ad (y11.1.2 a 4)) (C := RX11) (T := TX11) (N := 5) hx hb hts (by decide +kernel) hown hK hP a (wld_o ct ad (xt G []) y11.1 hc hk (by decide)) rfl 4 (by decide) (hts (.fieldLink RX11 31 "VideoSuite" "coder" "LVideoSuite$Coder;") (by decide +kernel)) (fun _ h9 => h9) rfl dX11_encode_101 ?_
        obtain ⟨b20, ho20, hc20, hk20, hF⟩ := dr_some hF
        refine W_st (st' := [.ref (ad b20)]) (by rw [va_some ho20]) ?_
        refine va_get (D := D) (ci := 0) (v := .int (y11.1.1 b20 10)) (C := RX0) (T := TX0) (N := 21) hx hb hts (by decide +kernel) hown hK hP b20 (wld_o ct ad (xt G []) y11.1 hc20 hk20 (by decide)) rfl 10 (by decide) (hts (.fieldLink RX11 361 "VideoSuite$Coder" "waiting" "I") (by decide +kernel)) (fun _ h9 => h9) rfl dX11_encode_104 ?_
        obtain ⟨x21, ex21, hF⟩ := ltt_some hF
        refine lv_topi (fun zx21 ezx21 => ?_)
        obtain rfl : x21 = zx21 := ex21.trans ezx21.symm
        refine lv_aload_n hx hb dX11_encode_107 rfl (lv_at hl 0 rfl) ?_
        refine va_get (D := D) (ci := 11) (v := va_re ad (y11.1.2 a 4)) (C := RX11) (T := TX11) (N := 5) hx hb hts (by decide +kernel) hown hK hP a (wld_o ct ad (xt G []) y11.1 hc hk (by decide)) rfl 4 (by decide) (hts (.fieldLink RX11 31 "VideoSuite" "coder" "LVideoSuite$Coder;") (by decide +kernel)) (fun _ h9 => h9) rfl dX11_encode_108 ?_
        refine W_st (st' := [.ref (ad b20), .int x21]) (by rw [va_some ho20]) ?_
        refine va_get (D := D) (ci := 0) (v := va_re ad (y11.1.2 b20 1)) (C := RX0) (T := TX0) (N := 21) hx hb hts (by decide +kernel) hown hK hP b20 (wld_o ct ad (xt G []) y11.1 hc20 hk20 (by decide)) rfl 1 (by decide) (hts (.fieldLink RX11 367 "VideoSuite$Coder" "now" "[I") (by decide +kernel)) (fun _ h9 => h9) rfl dX11_encode_111 ?_
        refine lv_bipush (v := (6 : Int32)) hx hb dX11_encode_114 (by decide) ?_
        obtain ⟨b22, ho22, hc22, hk22, hF⟩ := dr_some hF
        refine W_st (st' := [.int (6 : Int32), .ref (ad b22), .int x21]) (by rw [va_some ho22]) ?_
        obtain ⟨hvc, hF⟩ := chk_some hF
        refine va_iald hx hb hK hP b22 1 (wld_i ct ad (xt G []) y11.1 hc22 hk22) rfl hvc dX11_encode_116 ?_
        obtain ⟨x23, ex23, hF⟩ := ltt_some hF
        refine lv_topi (fun zx23 ezx23 => ?_)
        obtain rfl : x23 = zx23 := ex23.trans ezx23.symm
        obtain ⟨y24, hy24, hF⟩ := bnd_some hF
        obtain ⟨w25, hF, ew25⟩ := app_some hF
        obtain ⟨L26, eL26, hF⟩ := ltt_some hF
        have hT26 : L14 = ([] ++ y24.1) ++ w25.1 := by rw [hT, ew25]; simp only [List.append_assoc]
        have hbl26 : L26.length ≤ y.1.length ∧ wt L26 ≤ wt y.1 := by rw [eL26]; exact room_d hT26 hbl
        have J24 : ∀ (ad27 : Nat → Nat), agr G.1 ad ad27 → ∀ (H : Heap) (locs : List Loc) (ls : Array Slot), va_P D classes (wld ct ad27 (xt G L26) y24.2) H → va_D A (wld ct ad27 (xt G L26) y24.2) → va_S A s.heap H locs → lv_has ls 3 [(0, .ref (ad27 a))] → W p l e (headSpec wsX11_encode ({ frames := 9, cells := y.1.length, slots := wt y.1, locals := 272 })).room s m ([.ref (ad a)] : List Value).toArray below meth c H locs (L26 : NN).length (wt L26) (MQ below (va_Qi (fun (q : Int32) (u : Nat → Nat) => q = y.2.2 ∧ agr G.1 ad u) (fun u t => kE D ct u (xt G y.1) A y.2.1 t) A) ([.ref (ad a)] : List Value).toArray s y.1.length (wt y.1) A) (F0 m 169 ls []) := by
          intro ad27 hag H locs ls hP hD hS hl
          have hT : L14 = L26 ++ w25.1 := by rw [hT26, eL26]
          have h2 : y12.2 = w25.2 := by rw [h2, ew25]
          have hk : (xt G L26).2.1 a = 11 := by rw [eL26]; exact xt_k _ hc hk
          have hc : a < (xt G L26).1 := by rw [eL26]; exact xt_l _ hc
          have hk2 : (xt G L26).2.1 b2 = 0 := by rw [eL26]; exact xt_k _ hc2 hk2
          have hc2 : b2 < (xt G L26).1 := by rw [eL26]; exact xt_l _ hc2
          have hk5 : (xt G L26).2.1 b5 = 0 := by rw [eL26]; exact xt_k _ hc5 hk5
          have hc5 : b5 < (xt G L26).1 := by rw [eL26]; exact xt_l _ hc5
          have hk8 : (xt G L26).2.1 b8 = 0 := by rw [eL26]; exact xt_k _ hc8 hk8
          have hc8 : b8 < (xt G L26).1 := by rw [eL26]; exact xt_l _ hc8
          have hk10 : (xt G L26).2.1 b10 = 0 := by rw [eL26]; exact xt_k _ hc10 hk10
          have hc10 : b10 < (xt G L26).1 := by rw [eL26]; exact xt_l _ hc10
          have hk20 : (xt G L26).2.1 b20 = 0 := by rw [eL26]; exact xt_k _ hc20 hk20
          have hc20 : b20 < (xt G L26).1 := by rw [eL26]; exact xt_l _ hc20
          have hk22 : (xt G L26).2.1 b22 = 13 := by rw [eL26]; exact xt_k _ hc22 hk22
          have hc22 : b22 < (xt G L26).1 := by rw [eL26]; exact xt_l _ hc22
          obtain rfl := Option.some.inj hF
          have e1 : L14 = L26 := by rw [hT]; exact List.append_nil _
          have e2 : y12.2 = y24.2 := h2
          rw [e1] at J12
          try rw [e2] at J12
          exact J12 _ hag _ _ _ hP hD hS (lv_sub hl [0] rfl)
        clear hF
        obtain ⟨w28, hw28⟩ : ∃ z, z = y24 := ⟨_, rfl⟩
        have hF := hy24
        rw [← hw28] at hF
        clear hy24
        have hT : L26 = [] ++ w28.1 := by rw [eL26, hw28]
        have h2 : y24.2 = w28.2 := by rw [hw28]
        have hbl := hbl26
        refine lv_icmp_le (tgt := 169) hx hb dX11_encode_117 (by decide) (fun c29 => ?_) (fun c29 => ?_)
        · rw [if_pos c29] at hF
          obtain rfl := Option.some.inj hF
          have e1 : L26 = [] := by rw [hT]; exact List.append_nil _
          have e2 : y24.2 = y11.1 := h2
          rw [e1] at J24
          try rw [e2] at J24
          exact J24 _ hag _ _ _ hP hD hS (lv_sub hl [0] rfl)
        · rw [if_neg c29] at hF
          refine lv_aload_n hx hb dX11_encode_120 rfl (lv_at hl 0 rfl) ?_
          refine va_get (D := D) (ci := 11) (v := va_re ad (y11.1.2 a 4)) (C := RX11) (T := TX11) (N := 5) hx hb hts (by decide +kernel) hown hK hP a (wld_o ct ad (xt G []) y11.1 hc hk (by decide)) rfl 4 (by decide) (hts (.fieldLink RX11 31 "VideoSuite" "coder" "LVideoSuite$Coder;") (by decide +kernel)) (fun _ h9 => h9) rfl dX11_encode_121 ?_
          refine W_st (st' := [.ref (ad b20)]) (by rw [va_some ho20]) ?_
          refine va_get (D := D) (ci := 0) (v := .int (y11.1.1 b20 10)) (C := RX0) (T := TX0) (N := 21) hx hb hts (by decide +kernel) hown hK hP b20 (wld_o ct ad (xt G []) y11.1 hc20 hk20 (by decide)) rfl 10 (by decide) (hts (.fieldLink RX11 361 "VideoSuite$Coder" "waiting" "I") (by decide +kernel)) (fun _ h9 => h9) rfl dX11_encode_124 ?_
          obtain ⟨x30, ex30, hF⟩ := ltt_some hF
          refine lv_topi (fun zx30 ezx30 => ?_)
          obtain rfl : x30 = zx30 := ex30.trans ezx30.symm
          refine lv_iconst (v := (1 : Int32)) hx hb dX11_encode_127 (by decide) ?_
          refine lv_isub hx hb dX11_encode_128 ?_
          obtain ⟨x31, ex31, hF⟩ := ltt_some hF
          refine lv_topi (fun zx31 ezx31 => ?_)
          obtain rfl : x31 = zx31 := ex31.trans ezx31.symm
          refine lv_istore_n (lv' := [(1, .int x31), (0, .ref (ad a))]) hx hb dX11_encode_129 rfl hl (by decide) rfl (fun ls hl => ?_)
          refine lv_aload_n hx hb dX11_encode_130 rfl (lv_at hl 1 rfl) ?_
          refine va_get (D := D) (ci := 11) (v := va_re ad (y11.1.2 a 4)) (C := RX11) (T := TX11) (N := 5) hx hb hts (by decide +kernel) hown hK hP a (wld_o ct ad (xt G []) y11.1 hc hk (by decide)) rfl 4 (by decide) (hts (.fieldLink RX11 31 "VideoSuite" "coder" "LVideoSuite$Coder;") (by decide +kernel)) (fun _ h9 => h9) rfl dX11_encode_131 ?_
          refine lv_iload_n hx hb dX11_encode_134 rfl (lv_at hl 0 rfl) ?_
          refine lv_iconst (v := (0 : Int32)) hx hb dX11_encode_135 (by decide) ?_
          refine W_st (st' := [.int (0 : Int32), .int x31, .ref (ad b20)]) (by rw [va_some ho20]) ?_
          obtain ⟨y32, hy32, hF⟩ := bnd_some hF
          obtain ⟨w33, hF, ew33⟩ := app_some hF
          obtain ⟨L34, eL34, hF⟩ := ltt_some hF
          have hT34 : L26 = ([] ++ y32.1) ++ w33.1 := by rw [hT, ew33]; simp only [List.append_assoc]
          have hf9 := wA_in hD hA9 hS
          refine va_callv (va_runV (As := [.int x31, .int (0 : Int32)]) (rest := []) ⟨hx, hb, hml, hown, hts⟩ (kX0_codePicture l D ct ad Z (xt G []) y11.1 _ b20 x31 ((0 : Int32)) y32 hc20 hk20 hy32) (cwV 2 hts gX11_encode_X0_codePicture rfl rfl rfl (by decide +kernel) ⟨Nat.le_of_ble_eq_true rfl, Nat.le_of_ble_eq_true rfl⟩) ⟨fun a U g mk q => by obtain ⟨q0, q1, qP, qK, qD, qZ, qN⟩ := q; exact ⟨q0, q1, qP, va_K.moved (u := U) (U := U.calling g mk a) (Vm.Alike.refl U.vm) qK, qD, sF.moved (u := U) (U := U.calling g mk a) (Vm.Alike.refl U.vm) qZ, nF.same rfl qN⟩, va_recv hK hP (ci := 0) (q0 := b20) rfl (wld_o ct ad (xt G []) y11.1 hc20 hk20 (by decide)), fun U hU hW => ⟨rfl, by rw [hU], by rw [hU]; exact hP, va_K.moved hW.alike hK, hD.weaken (fun _ _ _ _ => trivial), by rw [hU]; exact ((hZ.kept hS.2.1).narrow hf9).moved hW.alike, hN.warm hW⟩⟩ rfl rfl hl.1 rfl (lv_room (Nat.le_of_ble_eq_true rfl)) dX11_encode_136 (room_s hT34 hbl)) hS (fun q _ h => hf9 q h) hf9 (fun ad35 t H locs ht hvm hw hB hz1 hk1 hS => ?_)
          have hn36 := hw
          obtain ⟨hP, hK9, hD9⟩ := hB
          rw [ht] at hP
          have hD := hD9.weaken (fun _ q _ h => hf9 q.1 h)
          rw [xt_xt, ← eL34] at hP hD
          refine W_cs (k := L34.length) (n := wt L34) (by rw [eL34]; exact (len_s [] y32.1).symm) (by rw [eL34]; exact (wt_app [] y32.1).symm) ?_
          have hT : L26 = L34 ++ w33.1 := by rw [hT34, eL34]
          have h2 : y24.2 = w33.2 := by rw [h2, ew33]
          have hl := lv_sub (l' := [(1, .int x31), (0, .ref (ad a))]) hl [0, 1] rfl
          have e9 : ([(1, .int x31), (0, .ref (ad a))] : List (Nat × Value)) = [(1, .int x31), (0, .ref (ad35 a))] := (by first | rfl | simp only [hn36 a hc])
          rw [e9] at hl
          clear e9
          have hk : (xt G L34).2.1 a = 11 := by rw [eL34]; exact xt_k _ hc hk
          have hc : a < (xt G L34).1 := by rw [eL34]; exact xt_l _ hc
          have hk2 : (xt G L34).2.1 b2 = 0 := by rw [eL34]; exact xt_k _ hc2 hk2
          have hc2 : b2 < (xt G L34).1 := by rw [eL34]; exact xt_l _ hc2
          have hk5 : (xt G L34).2.1 b5 = 0 := by rw [eL34]; exact xt_k _ hc5 hk5
          have hc5 : b5 < (xt G L34).1 := by rw [eL34]; exact xt_l _ hc5
          have hk8 : (xt G L34).2.1 b8 = 0 := by rw [eL34]; exact xt_k _ hc8 hk8
          have hc8 : b8 < (xt G L34).1 := by rw [eL34]; exact xt_l _ hc8
          have hk10 : (xt G L34).2.1 b10 = 0 := by rw [eL34]; exact xt_k _ hc10 hk10
          have hc10 : b10 < (xt G L34).1 := by rw [eL34]; exact xt_l _ hc10
          have hk20 : (xt G L34).2.1 b20 = 0 := by rw [eL34]; exact xt_k _ hc20 hk20
          have hc20 : b20 < (xt G L34).1 := by rw [eL34]; exact xt_l _ hc20
          have hk22 : (xt G L34).2.1 b22 = 13 := by rw [eL34]; exact xt_k _ hc22 hk22
          have hc22 : b22 < (xt G L34).1 := by rw [eL34]; exact xt_l _ hc22
          have hag := agr_t (xt_ge _ _) hag hn36
          refine lv_iconst (v := (0 : Int32)) hx hb dX11_encode_139 (by decide) ?_
          refine lv_istore_n (lv' := [(2, .int (0 : Int32)), (1, .int x31), (0, .ref (ad35 a))]) hx hb dX11_encode_140 rfl hl (by decide) rfl (fun ls hl => ?_)
          obtain ⟨y37, hy37, hF⟩ := bnd_some hF
          obtain ⟨w39, hF, ew39⟩ := app_some hF
          obtain ⟨L40, eL40, hF⟩ := ltt_some hF
          have hT40 : L26 = (L34 ++ y37.1) ++ w39.1 := by rw [hT, ew39]; simp only [List.append_assoc]
          have hbl40 : L40.length ≤ y.1.length ∧ wt L40 ≤ wt y.1 := by rw [eL40]; exact room_d hT40 hbl
          have K37 : ∀ (ad41 : Nat → Nat), agr G.1 ad ad41 → ∀ (H : Heap) (locs : List Loc) (ls : Array Slot), va_P D classes (wld ct ad41 (xt G L40) y37.2.2) H → va_D A (wld ct ad41 (xt G L40) y37.2.2) → va_S A s.heap H locs → lv_has ls 3 [(0, .ref (ad41 a))] → W p l e (headSpec wsX11_encode ({ frames := 9, cells := y.1.length, slots := wt y.1, locals := 272 })).room s m ([.ref (ad a)] : List Value).toArray below meth c H locs (L40 : NN).length (wt L40) (MQ below (va_Qi (fun (q : Int32) (u : Nat → Nat) => q = y.2.2 ∧ agr G.1 ad u) (fun u t => kE D ct u (xt G y.1) A y.2.1 t) A) ([.ref (ad a)] : List Value).toArray s y.1.length (wt y.1) A) (F0 m 161 ls []) := by
            intro ad41 hag H locs ls hP hD hS hl
            have hT : L26 = L40 ++ w39.1 := by rw [hT40, eL40]
            have h2 : y24.2 = w39.2 := by rw [h2, ew39]
            have hk : (xt G L40).2.1 a = 11 := by rw [eL40]; exact xt_k _ hc hk
            have hc : a < (xt G L40).1 := by rw [eL40]; exact xt_l _ hc
            have hk2 : (xt G L40).2.1 b2 = 0 := by rw [eL40]; exact xt_k _ hc2 hk2
            have hc2 : b2 < (xt G L40).1 := by rw [eL40]; exact xt_l _ hc2
            have hk5 : (xt G L40).2.1 b5 = 0 := by rw [eL40]; exact xt_k _ hc5 hk5
            have hc5 : b5 < (xt G L40).1 := by rw [eL40]; exact xt_l _ hc5
            have hk8 : (xt G L40).2.1 b8 = 0 := by rw [eL40]; exact xt_k _ hc8 hk8
            have hc8 : b8 < (xt G L40).1 := by rw [eL40]; exact xt_l _ hc8
            have hk10 : (xt G L40).2.1 b10 = 0 := by rw [eL40]; exact xt_k _ hc10 hk10
            have hc10 : b10 < (xt G L40).1 := by rw [eL40]; exact xt_l _ hc10
            have hk20 : (xt G L40).2.1 b20 = 0 := by rw [eL40]; exact xt_k _ hc20 hk20
            have hc20 : b20 < (xt G L40).1 := by rw [eL40]; exact xt_l _ hc20
            have hk22 : (xt G L40).2.1 b22 = 13 := by rw [eL40]; exact xt_k _ hc22 hk22
            have hc22 : b22 < (xt G L40).1 := by rw [eL40]; exact xt_l _ hc22
            refine lv_aload_n hx hb dX11_encode_161 rfl (lv_at hl 0 rfl) ?_
            refine va_get (D := D) (ci := 11) (v := va_re ad41 (y37.2.2.2 a 4)) (C := RX11) (T := TX11) (N := 5) hx hb hts (by decide +kernel) hown hK hP a (wld_o ct ad41 (xt G L40) y37.2.2 hc hk (by decide)) rfl 4 (by decide) (hts (.fieldLink RX11 31 "VideoSuite" "coder" "LVideoSuite$Coder;") (by decide +kernel)) (fun _ h9 => h9) rfl dX11_encode_162 ?_
            refine lv_iconst (v := (0 : Int32)) hx hb dX11_encode_165 (by decide) ?_
            obtain ⟨b42, ho42, hc42, hk42, hF⟩ := dr_some hF
            refine W_st (st' := [.int (0 : Int32), .ref (ad41 b42)]) (by rw [va_some ho42]) ?_
            refine va_put (D := D) (ci := 0) (v := .int (0 : Int32)) (ty := .int) (C := RX0) (T := TX0) (N := 21) hx hb hts (by decide +kernel) tyX0 tyX0_ok nmX0 hown hK hP hD hS b42 (wld_o ct ad41 (xt G L40) y37.2.2 hc42 hk42 (by decide)) rfl 10 (by decide) (hts (.fieldLink RX11 361 "VideoSuite$Coder" "waiting" "I") (by decide +kernel)) (fun _ h9 => h9) rfl (by decide +kernel) rfl rfl (Nat.le_of_ble_eq_true rfl) dX11_encode_166 (fun H locs hP hD hS => ?_)
            obtain ⟨M43, eM43, hF⟩ := ltt_some hF
            rw [set_oI ct ad41 (xt G L40) y37.2.2 hc42 hk42 (by decide) (by rfl), ← eM43] at hP hD
            obtain rfl := Option.some.inj hF
            have e1 : L26 = L40 := by rw [hT]; exact List.append_nil _
            have e2 : y24.2 = M43 := h2
            rw [e1] at J24
            try rw [e2] at J24
            exact J24 _ hag _ _ _ hP hD hS (lv_sub hl [0] rfl)
          clear hF
          refine itrA_rule (fun (s38 : NN × Int32 × DD) (r45 : NN) => (∃ t, s38.1 = L34 ++ t) → L40 = s38.1 ++ r45 → ∀ (ad44 : Nat → Nat), agr G.1 ad ad44 → ∀ (H : Heap) (locs : List Loc) (ls : Array Slot), va_P D classes (wld ct ad44 (xt G s38.1) s38.2.2) H → va_D A (wld ct ad44 (xt G s38.1) s38.2.2) → va_S A s.heap H locs → lv_has ls 3 [(2, .int s38.2.1), (1, .int x31), (0, .ref (ad44 a))] → W p l e (headSpec wsX11_encode ({ frames := 9, cells := y.1.length, slots := wt y.1, locals := 272 })).room s m ([.ref (ad a)] : List Value).toArray below meth c H locs (s38.1 : NN).length (wt s38.1) (MQ below (va_Qi (fun (q : Int32) (u : Nat → Nat) => q = y.2.2 ∧ agr G.1 ad u) (fun u t => kE D ct u (xt G y.1) A y.2.1 t) A) ([.ref (ad a)] : List Value).toArray s y.1.length (wt y.1) A) (F0 m 141 ls [])) ?_ _ _ _ hy37 ⟨[], (List.append_nil _).symm⟩ eL40 _ hag _ _ _ hP hD hS (lv_sub hl [0, 1, 2] rfl)
          rintro s38 r45 ⟨z46, hF, ⟨t37, et37⟩, hwz46⟩ ⟨u37, eu37⟩ eq37 ad44 hag H locs ls hP hD hS hl
          try dsimp only at hF
          obtain ⟨L47, eL47⟩ : ∃ x, x = s38.1 ++ z46.1 := ⟨_, rfl⟩
          obtain ⟨w48, hw48⟩ : ∃ x, x = z46 := ⟨_, rfl⟩
          rw [← hw48] at hF
          have hbl : L47.length ≤ y.1.length ∧ wt L47 ≤ wt y.1 := room_d (show L40 = L47 ++ t37 by rw [eq37, et37, eL47]; simp only [List.append_assoc]) hbl40
          have hT : L47 = s38.1 ++ w48.1 := by rw [eL47, hw48]
          have h2 : z46.2 = w48.2 := by rw [hw48]
          have hk : (xt G s38.1).2.1 a = 11 := by rw [eu37]; exact xt_k _ hc hk
          have hc : a < (xt G s38.1).1 := by rw [eu37]; exact xt_l _ hc
          have hk2 : (xt G s38.1).2.1 b2 = 0 := by rw [eu37]; exact xt_k _ hc2 hk2
          have hc2 : b2 < (xt G s38.1).1 := by rw [eu37]; exact xt_l _ hc2
          have hk5 : (xt G s38.1).2.1 b5 = 0 := by rw [eu37]; exact xt_k _ hc5 hk5
          have hc5 : b5 < (xt G s38.1).1 := by rw [eu37]; exact xt_l _ hc5
          have hk8 : (xt G s38.1).2.1 b8 = 0 := by rw [eu37]; exact xt_k _ hc8 hk8
          have hc8 : b8 < (xt G s38.1).1 := by rw [eu37]; exact xt_l _ hc8
          have hk10 : (xt G s38.1).2.1 b10 = 0 := by rw [eu37]; exact xt_k _ hc10 hk10
          have hc10 : b10 < (xt G s38.1).1 := by rw [eu37]; exact xt_l _ hc10
          have hk20 : (xt G s38.1).2.1 b20 = 0 := by rw [eu37]; exact xt_k _ hc20 hk20
          have hc20 : b20 < (xt G s38.1).1 := by rw [eu37]; exact xt_l _ hc20
          have hk22 : (xt G s38.1).2.1 b22 = 13 := by rw [eu37]; exact xt_k _ hc22 hk22
          have hc22 : b22 < (xt G s38.1).1 := by rw [eu37]; exact xt_l _ hc22
          refine lv_iload_n hx hb dX11_encode_141 rfl (lv_at hl 0 rfl) ?_
          refine lv_iload_n hx hb dX11_encode_142 rfl (lv_at hl 1 rfl) ?_
          refine lv_icmp_ge (tgt := 161) hx hb dX11_encode_143 (by decide) (fun c49 => ?_) (fun c49 => ?_)
          · rw [if_pos c49] at hF
            obtain rfl := Option.some.inj hF
            have e1 : L47 = s38.1 := by rw [hT]; exact List.append_nil _
            have e2 : z46.2 = .inr ((s38.2.1, s38.2.2)) := h2
            rw [e2] at hwz46
            obtain ⟨hw1, hw2⟩ := hwz46
            have e8 : L40 = s38.1 := by rw [eq37, hw2, ← eL47, e1]
            rw [e8] at K37
            try rw [← hw1] at K37
            exact K37 _ hag _ _ _ hP hD hS (lv_sub hl [2] rfl)
          · rw [if_neg c49] at hF
            refine lv_aload_n hx hb dX11_encode_146 rfl (lv_at hl 2 rfl) ?_
            refine va_get (D := D) (ci := 11) (v := va_re ad44 (s38.2.2.2 a 4)) (C := RX11) (T := TX11) (N := 5) hx hb hts (by decide +kernel) hown hK hP a (wld_o ct ad44 (xt G s38.1) s38.2.2 hc hk (by decide)) rfl 4 (by decide) (hts (.fieldLink RX11 31 "VideoSuite" "coder" "LVideoSuite$Coder;") (by decide +kernel)) (fun _ h9 => h9) rfl dX11_encode_147 ?_
            refine lv_iload_n hx hb dX11_encode_150 rfl (lv_at hl 0 rfl) ?_
            refine lv_iconst (v := (1 : Int32)) hx hb dX11_encode_151 (by decide) ?_
            obtain ⟨b50, ho50, hc50, hk50, hF⟩ := dr_some hF
            refine W_st (st' := [.int (1 : Int32), .int s38.2.1, .ref (ad44 b50)]) (by rw [va_some ho50]) ?_
            obtain ⟨y51, hy51, hF⟩ := bnd_some hF
            obtain ⟨w52, hF, ew52⟩ := app_some hF
            obtain ⟨L53, eL53, hF⟩ := ltt_some hF
            have hT53 : L47 = (s38.1 ++ y51.1) ++ w52.1 := by rw [hT, ew52]; simp only [List.append_assoc]
            have hf9 := wA_in hD hA9 hS
            refine va_callv (va_runV (As := [.int s38.2.1, .int (1 : Int32)]) (rest := []) ⟨hx, hb, hml, hown, hts⟩ (kX0_codePicture l D ct ad44 Z (xt G s38.1) s38.2.2 _ b50 s38.2.1 ((1 : Int32)) y51 hc50 hk50 hy51) (cwV 2 hts gX11_encode_X0_codePicture rfl rfl rfl (by decide +kernel) ⟨Nat.le_of_ble_eq_true rfl, Nat.le_of_ble_eq_true rfl⟩) ⟨fun a U g mk q => by obtain ⟨q0, q1, qP, qK, qD, qZ, qN⟩ := q; exact ⟨q0, q1, qP, va_K.moved (u := U) (U := U.calling g mk a) (Vm.Alike.refl U.vm) qK, qD, sF.moved (u := U) (U := U.calling g mk a) (Vm.Alike.refl U.vm) qZ, nF.same rfl qN⟩, va_recv hK hP (ci := 0) (q0 := b50) rfl (wld_o ct ad44 (xt G s38.1) s38.2.2 hc50 hk50 (by decide)), fun U hU hW => ⟨rfl, by rw [hU], by rw [hU]; exact hP, va_K.moved hW.alike hK, hD.weaken (fun _ _ _ _ => trivial), by rw [hU]; exact ((hZ.kept hS.2.1).narrow hf9).moved hW.alike, hN.warm hW⟩⟩ rfl rfl hl.1 rfl (lv_room (Nat.le_of_ble_eq_true rfl)) dX11_encode_152 (room_s hT53 hbl)) hS (fun q _ h => hf9 q h) hf9 (fun ad54 t H locs ht hvm hw hB hz1 hk1 hS => ?_)
            have hn55 := hw
            obtain ⟨hP, hK9, hD9⟩ := hB
            rw [ht] at hP
            have hD := hD9.weaken (fun _ q _ h => hf9 q.1 h)
            rw [xt_xt, ← eL53] at hP hD
            refine W_cs (k := L53.length) (n := wt L53) (by rw [eL53]; exact (len_s s38.1 y51.1).symm) (by rw [eL53]; exact (wt_app s38.1 y51.1).symm) ?_
            have hT : L47 = L53 ++ w52.1 := by rw [hT53, eL53]
            have h2 : z46.2 = w52.2 := by rw [h2, ew52]
            have hl := lv_sub (l' := [(2, .int s38.2.1), (1, .int x31), (0, .ref (ad44 a))]) hl [0, 1, 2] rfl
            have e9 : ([(2, .int s38.2.1), (1, .int x31), (0, .ref (ad44 a))] : List (Nat × Value)) = [(2, .int s38.2.1), (1, .int x31), (0, .ref (ad54 a))] := (by first | rfl | simp only [hn55 a hc])
            rw [e9] at hl
            clear e9
            have hk : (xt G L53).2.1 a = 11 := by rw [eL53]; exact xt_k _ hc hk
            have hc : a < (xt G L53).1 := by rw [eL53]; exact xt_l _ hc
            have hk2 : (xt G L53).2.1 b2 = 0 := by rw [eL53]; exact xt_k _ hc2 hk2
            have hc2 : b2 < (xt G L53).1 := by rw [eL53]; exact xt_l _ hc2
            have hk5 : (xt G L53).2.1 b5 = 0 := by rw [eL53]; exact xt_k _ hc5 hk5
            have hc5 : b5 < (xt G L53).1 := by rw [eL53]; exact xt_l _ hc5
            have hk8 : (xt G L53).2.1 b8 = 0 := by rw [eL53]; exact xt_k _ hc8 hk8
            have hc8 : b8 < (xt G L53).1 := by rw [eL53]; exact xt_l _ hc8
            have hk10 : (xt G L53).2.1 b10 = 0 := by rw [eL53]; exact xt_k _ hc10 hk10
            have hc10 : b10 < (xt G L53).1 := by rw [eL53]; exact xt_l _ hc10
            have hk20 : (xt G L53).2.1 b20 = 0 := by rw [eL53]; exact xt_k _ hc20 hk20
            have hc20 : b20 < (xt G L53).1 := by rw [eL53]; exact xt_l _ hc20
            have hk22 : (xt G L53).2.1 b22 = 13 := by rw [eL53]; exact xt_k _ hc22 hk22
            have hc22 : b22 < (xt G L53).1 := by rw [eL53]; exact xt_l _ hc22
            have hk50 : (xt G L53).2.1 b50 = 0 := by rw [eL53]; exact xt_k _ hc50 hk50
            have hc50 : b50 < (xt G L53).1 := by rw [eL53]; exact xt_l _ hc50
            have hag := agr_t (xt_ge _ _) hag hn55
            obtain ⟨x56, ex56, hF⟩ := ltt_some hF
            refine lv_iinc (v := x56) (lv' := [(2, .int x56), (1, .int x31), (0, .ref (ad54 a))]) hx hb dX11_encode_155 hl (k := 0) rfl (by rw [ex56]; rfl) (by decide) rfl (fun ls hl => ?_)
            refine lv_goto (tgt := 141) hx hb dX11_encode_158 (by decide) ?_
            obtain rfl := Option.some.inj hF
            have e1 : L47 = L53 := by rw [hT]; exact List.append_nil _
            have e2 : z46.2 = .inl (L53, (x56, y51.2)) := h2
            rw [e2] at hwz46
            obtain ⟨r2, er2, hwz46⟩ := hwz46
            exact hwz46 ⟨u37 ++ z46.1, by show L53 = _; rw [← e1, eL47, eu37]; simp only [List.append_assoc]⟩ (by show L40 = L53 ++ r2; rw [eq37, er2, ← e1, eL47]; simp only [List.append_assoc]) _ hag _ _ _ hP hD hS (lv_sub hl [0, 1, 2] rfl)
      · rw [if_neg c19] at hF
        refine lv_aload_n hx hb dX11_encode_48 rfl (lv_at hl 0 rfl) ?_
        refine va_get (D := D) (ci := 11) (v := va_re ad (y11.1.2 a 4)) (C := RX11) (T := TX11) (N := 5) hx hb hts (by decide +kernel) hown hK hP a (wld_o ct ad (xt G []) y11.1 hc hk (by decide)) rfl 4 (by decide) (hts (.fieldLink RX11 31 "VideoSuite" "coder" "LVideoSuite$Coder;") (by decide +kernel)) (fun _ h9 => h9) rfl dX11_encode_49 ?_
        obtain ⟨b57, ho57, hc57, hk57, hF⟩ := dr_some hF
        refine W_st (st' := [.ref (ad b57)]) (by rw [va_some ho57]) ?_
        refine va_get (D := D) (ci := 0) (v := .int (y11.1.1 b57 10)) (C := RX0) (T := TX0) (N := 21) hx hb hts (by decide +kernel) hown hK hP b57 (wld_o ct ad (xt G []) y11.1 hc57 hk57 (by decide)) rfl 10 (by decide) (hts (.fieldLink RX11 361 "VideoSuite$Coder" "waiting" "I") (by decide +kernel)) (fun _ h9 => h9) rfl dX11_encode_52 ?_
        obtain ⟨x58, ex58, hF⟩ := ltt_some hF
        refine lv_topi (fun zx58 ezx58 => ?_)
        obtain rfl : x58 = zx58 := ex58.trans ezx58.symm
        refine lv_iconst (v := (1 : Int32)) hx hb dX11_encode_55 (by decide) ?_
        refine lv_isub hx hb dX11_encode_56 ?_
        obtain ⟨x59, ex59, hF⟩ := ltt_some hF
        refine lv_topi (fun zx59 ezx59 => ?_)
        obtain rfl : x59 = zx59 := ex59.trans ezx59.symm
        refine lv_istore_n (lv' := [(1, .int x59), (0, .ref (ad a))]) hx hb dX11_encode_57 rfl hl (by decide) rfl (fun ls hl => ?_)
        refine lv_iconst (v := (0 : Int32)) hx hb dX11_encode_58 (by decide) ?_
        refine lv_istore_n (lv' := [(2, .int (0 : Int32)), (1, .int x59), (0, .ref (ad a))]) hx hb dX11_encode_59 rfl hl (by decide) rfl (fun ls hl => ?_)
        obtain ⟨y60, hy60, hF⟩ := bnd_some hF
        obtain ⟨w62, hF, ew62⟩ := app_some hF
        obtain ⟨L63, eL63, hF⟩ := ltt_some hF
        have hT63 : L14 = ([] ++ y60.1) ++ w62.1 := by rw [hT, ew62]; simp only [List.append_assoc]
        have hbl63 : L63.length ≤ y.1.length ∧ wt L63 ≤ wt y.1 := by rw [eL63]; exact room_d hT63 hbl
        have K60 : ∀ (ad64 : Nat → Nat), agr G.1 ad ad64 → ∀ (H : Heap) (locs : List Loc) (ls : Array Slot), va_P D classes (wld ct ad64 (xt G L63) y60.2.2) H → va_D A (wld ct ad64 (xt G L63) y60.2.2) → va_S A s.heap H locs → lv_has ls 3 [(1, .int x59), (0, .ref (ad64 a))] → W p l e (headSpec wsX11_encode ({ frames := 9, cells := y.1.length, slots := wt y.1, locals := 272 })).room s m ([.ref (ad a)] : List Value).toArray below meth c H locs (L63 : NN).length (wt L63) (MQ below (va_Qi (fun (q : Int32) (u : Nat → Nat) => q = y.2.2 ∧ agr G.1 ad u) (fun u t => kE D ct u (xt G y.1) A y.2.1 t) A) ([.ref (ad a)] : List Value).toArray s y.1.length (wt y.1) A) (F0 m 80 ls []) := by
          intro ad64 hag H locs ls hP hD hS hl
          have hT : L14 = L63 ++ w62.1 := by rw [hT63, eL63]
          have h2 : y12.2 = w62.2 := by rw [h2, ew62]
          have hk : (xt G L63).2.1 a = 11 := by rw [eL63]; exact xt_k _ hc hk
          have hc : a < (xt G L63).1 := by rw [eL63]; exact xt_l _ hc
          have hk2 : (xt G L63).2.1 b2 = 0 := by rw [eL63]; exact xt_k _ hc2 hk2
          have hc2 : b2 < (xt G L63).1 := by rw [eL63]; exact xt_l _ hc2
          have hk5 : (xt G L63).2.1 b5 = 0 := by rw [eL63]; exact xt_k _ hc5 hk5
          have hc5 : b5 < (xt G L63).1 := by rw [eL63]; exact xt_l _ hc5
          have hk8 : (xt G L63).2.1 b8 = 0 := by rw [eL63]; exact xt_k _ hc8 hk8
          have hc8 : b8 < (xt G L63).1 := by rw [eL63]; exact xt_l _ hc8
          have hk10 : (xt G L63).2.1 b10 = 0 := by rw [eL63]; exact xt_k _ hc10 hk10
          have hc10 : b10 < (xt G L63).1 := by rw [eL63]; exact xt_l _ hc10
          have hk57 : (xt G L63).2.1 b57 = 0 := by rw [eL63]; exact xt_k _ hc57 hk57
          have hc57 : b57 < (xt G L63).1 := by rw [eL63]; exact xt_l _ hc57
          refine lv_aload_n hx hb dX11_encode_80 rfl (lv_at hl 1 rfl) ?_
          refine va_get (D := D) (ci := 11) (v := va_re ad64 (y60.2.2.2 a 4)) (C := RX11) (T := TX11) (N := 5) hx hb hts (by decide +kernel) hown hK hP a (wld_o ct ad64 (xt G L63) y60.2.2 hc hk (by decide)) rfl 4 (by decide) (hts (.fieldLink RX11 31 "VideoSuite" "coder" "LVideoSuite$Coder;") (by decide +kernel)) (fun _ h9 => h9) rfl dX11_encode_81 ?_
          refine lv_iload_n hx hb dX11_encode_84 rfl (lv_at hl 0 rfl) ?_
          refine lv_iconst (v := (2 : Int32)) hx hb dX11_encode_85 (by decide) ?_
          obtain ⟨b65, ho65, hc65, hk65, hF⟩ := dr_some hF
          refine W_st (st' := [.int (2 : Int32), .int x59, .ref (ad64 b65)]) (by rw [va_some ho65]) ?_
          obtain ⟨y66, hy66, hF⟩ := bnd_some hF
          obtain ⟨w67, hF, ew67⟩ := app_some hF
          obtain ⟨L68, eL68, hF⟩ := ltt_some hF
          have hT68 : L14 = (L63 ++ y66.1) ++ w67.1 := by rw [hT, ew67]; simp only [List.append_assoc]
          have hf9 := wA_in hD hA9 hS
          refine va_callv (va_runV (As := [.int x59, .int (2 : Int32)]) (rest := []) ⟨hx, hb, hml, hown, hts⟩ (kX0_codePicture l D ct ad64 Z (xt G L63) y60.2.2 _ b65 x59 ((2 : Int32)) y66 hc65 hk65 hy66) (cwV 2 hts gX11_encode_X0_codePicture rfl rfl rfl (by decide +kernel) ⟨Nat.le_of_ble_eq_true rfl, Nat.le_of_ble_eq_true rfl⟩) ⟨fun a U g mk q => by obtain ⟨q0, q1, qP, qK, qD, qZ, qN⟩ := q; exact ⟨q0, q1, qP, va_K.moved (u := U) (U := U.calling g mk a) (Vm.Alike.refl U.vm) qK, qD, sF.moved (u := U) (U := U.calling g mk a) (Vm.Alike.refl U.vm) qZ, nF.same rfl qN⟩, va_recv hK hP (ci := 0) (q0 := b65) rfl (wld_o ct ad64 (xt G L63) y60.2.2 hc65 hk65 (by decide)), fun U hU hW => ⟨rfl, by rw [hU], by rw [hU]; exact hP, va_K.moved hW.alike hK, hD.weaken (fun _ _ _ _ => trivial), by rw [hU]; exact ((hZ.kept hS.2.1).narrow hf9).moved hW.alike, hN.warm hW⟩⟩ rfl rfl hl.1 rfl (lv_room (Nat.le_of_ble_eq_true rfl)) dX11_encode_86 (room_s hT68 hbl)) hS (fun q _ h => hf9 q h) hf9 (fun ad69 t H locs ht hvm hw hB hz1 hk1 hS => ?_)
          have hn70 := hw
          obtain ⟨hP, hK9, hD9⟩ := hB
          rw [ht] at hP
          have hD := hD9.weaken (fun _ q _ h => hf9 q.1 h)
          rw [xt_xt, ← eL68] at hP hD
          refine W_cs (k := L68.length) (n := wt L68) (by rw [eL68]; exact (len_s L63 y66.1).symm) (by rw [eL68]; exact (wt_app L63 y66.1).symm) ?_
          have hT : L14 = L68 ++ w67.1 := by rw [hT68, eL68]
          have h2 : y12.2 = w67.2 := by rw [h2, ew67]
          have hl := lv_sub (l' := [(0, .ref (ad64 a))]) hl [1] rfl
          have e9 : ([(0, .ref (ad64 a))] : List (Nat × Value)) = [(0, .ref (ad69 a))] := (by first | rfl | simp only [hn70 a hc])
          rw [e9] at hl
          clear e9
          have hk : (xt G L68).2.1 a = 11 := by rw [eL68]; exact xt_k _ hc hk
          have hc : a < (xt G L68).1 := by rw [eL68]; exact xt_l _ hc
          have hk2 : (xt G L68).2.1 b2 = 0 := by rw [eL68]; exact xt_k _ hc2 hk2
          have hc2 : b2 < (xt G L68).1 := by rw [eL68]; exact xt_l _ hc2
          have hk5 : (xt G L68).2.1 b5 = 0 := by rw [eL68]; exact xt_k _ hc5 hk5
          have hc5 : b5 < (xt G L68).1 := by rw [eL68]; exact xt_l _ hc5
          have hk8 : (xt G L68).2.1 b8 = 0 := by rw [eL68]; exact xt_k _ hc8 hk8
          have hc8 : b8 < (xt G L68).1 := by rw [eL68]; exact xt_l _ hc8
          have hk10 : (xt G L68).2.1 b10 = 0 := by rw [eL68]; exact xt_k _ hc10 hk10
          have hc10 : b10 < (xt G L68).1 := by rw [eL68]; exact xt_l _ hc10
          have hk57 : (xt G L68).2.1 b57 = 0 := by rw [eL68]; exact xt_k _ hc57 hk57
          have hc57 : b57 < (xt G L68).1 := by rw [eL68]; exact xt_l _ hc57
          have hk65 : (xt G L68).2.1 b65 = 0 := by rw [eL68]; exact xt_k _ hc65 hk65
          have hc65 : b65 < (xt G L68).1 := by rw [eL68]; exact xt_l _ hc65
          have hag := agr_t (xt_ge _ _) hag hn70
          refine lv_aload_n hx hb dX11_encode_89 rfl (lv_at hl 0 rfl) ?_
          refine va_get (D := D) (ci := 11) (v := va_re ad69 (y66.2.2 a 4)) (C := RX11) (T := TX11) (N := 5) hx hb hts (by decide +kernel) hown hK hP a (wld_o ct ad69 (xt G L68) y66.2 hc hk (by decide)) rfl 4 (by decide) (hts (.fieldLink RX11 31 "VideoSuite" "coder" "LVideoSuite$Coder;") (by decide +kernel)) (fun _ h9 => h9) rfl dX11_encode_90 ?_
          refine lv_iconst (v := (0 : Int32)) hx hb dX11_encode_93 (by decide) ?_
          obtain ⟨b71, ho71, hc71, hk71, hF⟩ := dr_some hF
          refine W_st (st' := [.int (0 : Int32), .ref (ad69 b71)]) (by rw [va_some ho71]) ?_
          refine va_put (D := D) (ci := 0) (v := .int (0 : Int32)) (ty := .int) (C := RX0) (T := TX0) (N := 21) hx hb hts (by decide +kernel) tyX0 tyX0_ok nmX0 hown hK hP hD hS b71 (wld_o ct ad69 (xt G L68) y66.2 hc71 hk71 (by decide)) rfl 10 (by decide) (hts (.fieldLink RX11 361 "VideoSuite$Coder" "waiting" "I") (by decide +kernel)) (fun _ h9 => h9) rfl (by decide +kernel) rfl rfl (Nat.le_of_ble_eq_true rfl) dX11_encode_94 (fun H locs hP hD hS => ?_)
          obtain ⟨M72, eM72, hF⟩ := ltt_some hF
          rw [set_oI ct ad69 (xt G L68) y66.2 hc71 hk71 (by decide) (by rfl), ← eM72] at hP hD
          refine lv_goto (tgt := 169) hx hb dX11_encode_97 (by decide) ?_
          obtain rfl := Option.some.inj hF
          have e1 : L14 = L68 := by rw [hT]; exact List.append_nil _
          have e2 : y12.2 = M72 := h2
          rw [e1] at J12
          try rw [e2] at J12
          exact J12 _ hag _ _ _ hP hD hS (lv_sub hl [0] rfl)
        clear hF
        refine itrA_rule (fun (s61 : NN × Int32 × DD) (r74 : NN) => (∃ t, s61.1 = [] ++ t) → L63 = s61.1 ++ r74 → ∀ (ad73 : Nat → Nat), agr G.1 ad ad73 → ∀ (H : Heap) (locs : List Loc) (ls : Array Slot), va_P D classes (wld ct ad73 (xt G s61.1) s61.2.2) H → va_D A (wld ct ad73 (xt G s61.1) s61.2.2) → va_S A s.heap H locs → lv_has ls 3 [(2, .int s61.2.1), (1, .int x59), (0, .ref (ad73 a))] → W p l e (headSpec wsX11_encode ({ frames := 9, cells := y.1.length, slots := wt y.1, locals := 272 })).room s m ([.ref (ad a)] : List Value).toArray below meth c H locs (s61.1 : NN).length (wt s61.1) (MQ below (va_Qi (fun (q : Int32) (u : Nat → Nat) => q = y.2.2 ∧ agr G.1 ad u) (fun u t => kE D ct u (xt G y.1) A y.2.1 t) A) ([.ref (ad a)] : List Value).toArray s y.1.length (wt y.1) A) (F0 m 60 ls [])) ?_ _ _ _ hy60 ⟨[], (List.append_nil _).symm⟩ eL63 _ hag _ _ _ hP hD hS (lv_sub hl [0, 1, 2] rfl)
        rintro s61 r74 ⟨z75, hF, ⟨t60, et60⟩, hwz75⟩ ⟨u60, eu60⟩ eq60 ad73 hag H locs ls hP hD hS hl
        try dsimp only at hF
        obtain ⟨L76, eL76⟩ : ∃ x, x = s61.1 ++ z75.1 := ⟨_, rfl⟩
        obtain ⟨w77, hw77⟩ : ∃ x, x = z75 := ⟨_, rfl⟩
        rw [← hw77] at hF
        have hbl : L76.length ≤ y.1.length ∧ wt L76 ≤ wt y.1 := room_d (show L63 = L76 ++ t60 by rw [eq60, et60, eL76]; simp only [List.append_assoc]) hbl63
        have hT : L76 = s61.1 ++ w77.1 := by rw [eL76, hw77]
        have h2 : z75.2 = w77.2 := by rw [hw77]
        have hk : (xt G s61.1).2.1 a = 11 := by rw [eu60]; exact xt_k _ hc hk
        have hc : a < (xt G s61.1).1 := by rw [eu60]; exact xt_l _ hc
        have hk2 : (xt G s61.1).2.1 b2 = 0 := by rw [eu60]; exact xt_k _ hc2 hk2
        have hc2 : b2 < (xt G s61.1).1 := by rw [eu60]; exact xt_l _ hc2
        have hk5 : (xt G s61.1).2.1 b5 = 0 := by rw [eu60]; exact xt_k _ hc5 hk5
        have hc5 : b5 < (xt G s61.1).1 := by rw [eu60]; exact xt_l _ hc5
        have hk8 : (xt G s61.1).2.1 b8 = 0 := by rw [eu60]; exact xt_k _ hc8 hk8
        have hc8 : b8 < (xt G s61.1).1 := by rw [eu60]; exact xt_l _ hc8
        have hk10 : (xt G s61.1).2.1 b10 = 0 := by rw [eu60]; exact xt_k _ hc10 hk10
        have hc10 : b10 < (xt G s61.1).1 := by rw [eu60]; exact xt_l _ hc10
        have hk57 : (xt G s61.1).2.1 b57 = 0 := by rw [eu60]; exact xt_k _ hc57 hk57
        have hc57 : b57 < (xt G s61.1).1 := by rw [eu60]; exact xt_l _ hc57
        refine lv_iload_n hx hb dX11_encode_60 rfl (lv_at hl 0 rfl) ?_
        refine lv_iload_n hx hb dX11_encode_61 rfl (lv_at hl 1 rfl) ?_
        refine lv_icmp_ge (tgt := 80) hx hb dX11_encode_62 (by decide) (fun c78 => ?_) (fun c78 => ?_)
        · rw [if_pos c78] at hF
          obtain rfl := Option.some.inj hF
          have e1 : L76 = s61.1 := by rw [hT]; exact List.append_nil _
          have e2 : z75.2 = .inr ((s61.2.1, s61.2.2)) := h2
          rw [e2] at hwz75
          obtain ⟨hw1, hw2⟩ := hwz75
          have e8 : L63 = s61.1 := by rw [eq60, hw2, ← eL76, e1]
          rw [e8] at K60
          try rw [← hw1] at K60
          exact K60 _ hag _ _ _ hP hD hS (lv_sub hl [1, 2] rfl)
        · rw [if_neg c78] at hF
          refine lv_aload_n hx hb dX11_encode_65 rfl (lv_at hl 2 rfl) ?_
          refine va_get (D := D) (ci := 11) (v := va_re ad73 (s61.2.2.2 a 4)) (C := RX11) (T := TX11) (N := 5) hx hb hts (by decide +kernel) hown hK hP a (wld_o ct ad73 (xt G s61.1) s61.2.2 hc hk (by decide)) rfl 4 (by decide) (hts (.fieldLink RX11 31 "VideoSuite" "coder" "LVideoSuite$Coder;") (by decide +kernel)) (fun _ h9 => h9) rfl dX11_encode_66 ?_
          refine lv_iload_n hx hb dX11_encode_69 rfl (lv_at hl 0 rfl) ?_
          refine lv_iconst (v := (0 : Int32)) hx hb dX11_encode_70 (by decide) ?_
          obtain ⟨b79, ho79, hc79, hk79, hF⟩ := dr_some hF
          refine W_st (st' := [.int (0 : Int32), .int s61.2.1, .ref (ad73 b79)]) (by rw [va_some ho79]) ?_
          obtain ⟨y80, hy80, hF⟩ := bnd_some hF
          obtain ⟨w81, hF, ew81⟩ := app_some hF
          obtain ⟨L82, eL82, hF⟩ := ltt_some hF
          have hT82 : L76 = (s61.1 ++ y80.1) ++ w81.1 := by rw [hT, ew81]; simp only [List.append_assoc]
          have hf9 := wA_in hD hA9 hS
          refine va_callv (va_runV (As := [.int s61.2.1, .int (0 : Int32)]) (rest := []) ⟨hx, hb, hml, hown, hts⟩ (kX0_codePicture l D ct ad73 Z (xt G s61.1) s61.2.2 _ b79 s61.2.1 ((0 : Int32)) y80 hc79 hk79 hy80) (cwV 2 hts gX11_encode_X0_codePicture rfl rfl rfl (by decide +kernel) ⟨Nat.le_of_ble_eq_true rfl, Nat.le_of_ble_eq_true rfl⟩) ⟨fun a U g mk q => by obtain ⟨q0, q1, qP, qK, qD, qZ, qN⟩ := q; exact ⟨q0, q1, qP, va_K.moved (u := U) (U := U.calling g mk a) (Vm.Alike.refl U.vm) qK, qD, sF.moved (u := U) (U := U.calling g mk a) (Vm.Alike.refl U.vm) qZ, nF.same rfl qN⟩, va_recv hK hP (ci := 0) (q0 := b79) rfl (wld_o ct ad73 (xt G s61.1) s61.2.2 hc79 hk79 (by decide)), fun U hU hW => ⟨rfl, by rw [hU], by rw [hU]; exact hP, va_K.moved hW.alike hK, hD.weaken (fun _ _ _ _ => trivial), by rw [hU]; exact ((hZ.kept hS.2.1).narrow hf9).moved hW.alike, hN.warm hW⟩⟩ rfl rfl hl.1 rfl (lv_room (Nat.le_of_ble_eq_true rfl)) dX11_encode_71 (room_s hT82 hbl)) hS (fun q _ h => hf9 q h) hf9 (fun ad83 t H locs ht hvm hw hB hz1 hk1 hS => ?_)
          have hn84 := hw
          obtain ⟨hP, hK9, hD9⟩ := hB
          rw [ht] at hP
          have hD := hD9.weaken (fun _ q _ h => hf9 q.1 h)
          rw [xt_xt, ← eL82] at hP hD
          refine W_cs (k := L82.length) (n := wt L82) (by rw [eL82]; exact (len_s s61.1 y80.1).symm) (by rw [eL82]; exact (wt_app s61.1 y80.1).symm) ?_
          have hT : L76 = L82 ++ w81.1 := by rw [hT82, eL82]
          have h2 : z75.2 = w81.2 := by rw [h2, ew81]
          have hl := lv_sub (l' := [(2, .int s61.2.1), (1, .int x59), (0, .ref (ad73 a))]) hl [0, 1, 2] rfl
          have e9 : ([(2, .int s61.2.1), (1, .int x59), (0, .ref (ad73 a))] : List (Nat × Value)) = [(2, .int s61.2.1), (1, .int x59), (0, .ref (ad83 a))] := (by first | rfl | simp only [hn84 a hc])
          rw [e9] at hl
          clear e9
          have hk : (xt G L82).2.1 a = 11 := by rw [eL82]; exact xt_k _ hc hk
          have hc : a < (xt G L82).1 := by rw [eL82]; exact xt_l _ hc
          have hk2 : (xt G L82).2.1 b2 = 0 := by rw [eL82]; exact xt_k _ hc2 hk2
          have hc2 : b2 < (xt G L82).1 := by rw [eL82]; exact xt_l _ hc2
          have hk5 : (xt G L82).2.1 b5 = 0 := by rw [eL82]; exact xt_k _ hc5 hk5
          have hc5 : b5 < (xt G L82).1 := by rw [eL82]; exact xt_l _ hc5
          have hk8 : (xt G L82).2.1 b8 = 0 := by rw [eL82]; exact xt_k _ hc8 hk8
          have hc8 : b8 < (xt G L82).1 := by rw [eL82]; exact xt_l _ hc8
          have hk10 : (xt G L82).2.1 b10 = 0 := by rw [eL82]; exact xt_k _ hc10 hk10
          have hc10 : b10 < (xt G L82).1 := by rw [eL82]; exact xt_l _ hc10
          have hk57 : (xt G L82).2.1 b57 = 0 := by rw [eL82]; exact xt_k _ hc57 hk57
          have hc57 : b57 < (xt G L82).1 := by rw [eL82]; exact xt_l _ hc57
          have hk79 : (xt G L82).2.1 b79 = 0 := by rw [eL82]; exact xt_k _ hc79 hk79
          have hc79 : b79 < (xt G L82).1 := by rw [eL82]; exact xt_l _ hc79
          have hag := agr_t (xt_ge _ _) hag hn84
          obtain ⟨x85, ex85, hF⟩ := ltt_some hF
          refine lv_iinc (v := x85) (lv' := [(2, .int x85), (1, .int x59), (0, .ref (ad83 a))]) hx hb dX11_encode_74 hl (k := 0) rfl (by rw [ex85]; rfl) (by decide) rfl (fun ls hl => ?_)
          refine lv_goto (tgt := 60) hx hb dX11_encode_77 (by decide) ?_
          obtain rfl := Option.some.inj hF
          have e1 : L76 = L82 := by rw [hT]; exact List.append_nil _
          have e2 : z75.2 = .inl (L82, (x85, y80.2)) := h2
          rw [e2] at hwz75
          obtain ⟨r2, er2, hwz75⟩ := hwz75
          exact hwz75 ⟨u60 ++ z75.1, by show L82 = _; rw [← e1, eL76, eu60]; simp only [List.append_assoc]⟩ (by show L63 = L82 ++ r2; rw [eq60, er2, ← e1, eL76]; simp only [List.append_assoc]) _ hag _ _ _ hP hD hS (lv_sub hl [0, 1, 2] rfl)
    clear hF
    have hF := hy7
    clear hy7
    refine lv_if_eq (tgt := 31) hx hb dX11_encode_17 (by decide) (fun c86 => ?_) (fun c86 => ?_)
    · rw [if_pos c86] at hF
      obtain rfl := Option.some.inj hF
      exact J7 _ _ _ hP hD hS (lv_sub hl [0] rfl)
    · rw [if_neg c86] at hF
      cases hF
  clear hF
  have hF := hy4
  clear hy4
  refine lv_if_eq (tgt := 20) hx hb dX11_encode_7 (by decide) (fun c87 => ?_) (fun c87 => ?_)
  · rw [if_pos c87] at hF
    cases hF
  · rw [if_neg c87] at hF
    obtain rfl := Option.some.inj hF
    exact J4 _ _ _ hP hD hS (lv_sub hl [0] rfl)
