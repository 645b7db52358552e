/-! ===== THE TABLES: codes with their pool entries resolved (by program) ===== -/
def mTab0 : List (MethodName × ByteArray × Nat × Nat × Nat × Nat) := [(yX0_init, cX0_init, 205, 204, 0, 72),
  (yX0_begin, cX0_begin, 936, 934, 935, 72),
  (yX0_bringNear, cX0_bringNear, 942, 941, 10, 72),
  (yX0_countNear, cX0_countNear, 1062, 1060, 1061, 72),
  (yX0_leaveByLeastFill, cX0_leaveByLeastFill, 932, 930, 931, 72),
  (yX0_fillOf, cX0_fillOf, 946, 945, 11, 72),
  (yX0_leave, cX0_leave, 956, 954, 955, 72),
  (yX0_costOf, cX0_costOf, 983, 981, 982, 72),
  (yX1_init, cX1_init, 109, 108, 0, 70),
  (yX1_has, cX1_has, 435, 433, 434, 70),
  (yX1_hasOrNone, cX1_hasOrNone, 431, 429, 430, 70),
  (yX1_begin, cX1_begin, 388, 386, 387, 70),
  (yX1_beginRows, cX1_beginRows, 396, 394, 395, 70),
  (yX1_beginRow, cX1_beginRow, 403, 402, 0, 70),
  (yX1_made, cX1_made, 411, 410, 1, 70),
  (yX1_setRow, cX1_setRow, 407, 405, 406, 70),
  (yX1_setHints, cX1_setHints, 392, 390, 391, 70),
  (yX1_isHinted, cX1_isHinted, 450, 448, 449, 70),
  (yX1_isEvidence, cX1_isEvidence, 908, 906, 907, 70),
  (yX1_numberOf, cX1_numberOf, 788, 786, 787, 70),
  (yX1_become, cX1_become, 857, 855, 856, 70),
  (yX1_printTo, cX1_printTo, 638, 636, 637, 70),
  (yX2_init, cX2_init, 322, 321, 0, 79),
  (yX2_isMissing, cX2_isMissing, 836, 834, 835, 79),
  (yX2_has, cX2_has, 1078, 1076, 1077, 79),
  (yX2_hasRun, cX2_hasRun, 1090, 1088, 1089, 79),
  (yX2_become, cX2_become, 1019, 1017, 1018, 79),
  (yX2_set, cX2_set, 1026, 1024, 1025, 79),
  (yX3_init, cX3_init, 254, 253, 0, 74),
  (yX3_add, cX3_add, 459, 457, 458, 74),
  (yX3_findFault, cX3_findFault, 467, 465, 466, 74),
  (yX3_readClause, cX3_readClause, 553, 551, 552, 74),
  (yX3_readToken, cX3_readToken, 471, 470, 2, 74),
  (yX3_readNumber, cX3_readNumber, 547, 546, 5, 74),
  (yX3_findWord, cX3_findWord, 478, 477, 3, 74),
  (yX3_isRead, cX3_isRead, 493, 492, 4, 74),
  (yX3_wordOf, cX3_wordOf, 481, 480, 0, 74),
  (yX3_isLetter, cX3_isLetter, 474, 473, 0, 74),
  (yX3_isDigit, cX3_isDigit, 543, 542, 0, 74),
  (yX4_init, cX4_init, 228, 227, 0, 73)]
def mTab1 : List (MethodName × ByteArray × Nat × Nat × Nat × Nat) := [(yX4_grow, cX4_grow, 965, 963, 964, 73),
  (yX4_isInOne, cX4_isInOne, 969, 968, 12, 73),
  (yX4_joinNext, cX4_joinNext, 974, 973, 13, 73),
  (yX5_leads, cX5_leads, 881, 880, 0, 89),
  (yX5_leadsOn, cX5_leadsOn, 884, 883, 0, 89),
  (yX5_isOpen, cX5_isOpen, 895, 894, 0, 89),
  (yX6_init, cX6_init, 102, 101, 0, 69),
  (yX6_has, cX6_has, 380, 378, 379, 69),
  (yX6_hasOrNone, cX6_hasOrNone, 376, 374, 375, 69),
  (yX6_hasValue, cX6_hasValue, 802, 800, 801, 69),
  (yX6_add, cX6_add, 384, 382, 383, 69),
  (yX6_become, cX6_become, 853, 851, 852, 69),
  (yX6_numberIn, cX6_numberIn, 784, 782, 783, 69),
  (yX6_factorIn, cX6_factorIn, 780, 778, 779, 69),
  (yX6_isParent, cX6_isParent, 892, 890, 891, 69),
  (yX6_heeds, cX6_heeds, 888, 886, 887, 69),
  (yX6_hasEvidenceFrom, cX6_hasEvidenceFrom, 900, 898, 899, 69),
  (yX6_heedsAny, cX6_heedsAny, 904, 903, 9, 69),
  (yX6_countFindings, cX6_countFindings, 1037, 1035, 1036, 69),
  (yX6_countDone, cX6_countDone, 1053, 1051, 1052, 69),
  (yX6_countHinted, cX6_countHinted, 1057, 1055, 1056, 69),
  (yX6_countWorlds, cX6_countWorlds, 1066, 1064, 1065, 69),
  (yX7_init, cX7_init, 183, 182, 0, 71),
  (yX7_weighAll, cX7_weighAll, 770, 768, 769, 71),
  (yX7_weighBoth, cX7_weighBoth, 814, 812, 813, 71),
  (yX7_weighGuesses, cX7_weighGuesses, 916, 914, 915, 71),
  (yX7_weighWanted, cX7_weighWanted, 845, 843, 844, 71),
  (yX7_weighFrom, cX7_weighFrom, 776, 775, 0, 71),
  (yX7_findLikeliest, cX7_findLikeliest, 870, 868, 869, 71),
  (yX7_seekLikeliest, cX7_seekLikeliest, 873, 872, 0, 71),
  (yX7_draw, cX7_draw, 997, 995, 996, 71),
  (yX7_drawOne, cX7_drawOne, 1002, 1001, 15, 71),
  (yX7_fitsFindings, cX7_fitsFindings, 1011, 1009, 1010, 71),
  (yX8_init, cX8_init, 94, 93, 0, 68),
  (yX8_node, cX8_node, 372, 370, 371, 68),
  (yX8_row, cX8_row, 418, 416, 417, 68),
  (yX8_told, cX8_told, 427, 425, 426, 68),
  (yX8_done, cX8_done, 439, 437, 438, 68),
  (yX8_hint, cX8_hint, 443, 441, 442, 68),
  (yX8_feed, cX8_feed, 455, 453, 454, 68)]
def mTab2 : List (MethodName × ByteArray × Nat × Nat × Nat × Nat) := [(yX8_text, cX8_text, 463, 461, 462, 68),
  (yX8_of, cX8_of, 569, 567, 568, 68),
  (yX8_cell, cX8_cell, 573, 571, 572, 68),
  (yX8_print, cX8_print, 578, 576, 577, 68),
  (yX8_weight, cX8_weight, 766, 764, 765, 68),
  (yX8_power, cX8_power, 792, 790, 791, 68),
  (yX8_odds, cX8_odds, 798, 796, 797, 68),
  (yX8_both, cX8_both, 825, 823, 824, 68),
  (yX8_shown, cX8_shown, 829, 827, 828, 68),
  (yX8_would, cX8_would, 849, 847, 848, 68),
  (yX8_without, cX8_without, 862, 860, 861, 68),
  (yX8_likely, cX8_likely, 866, 864, 865, 68),
  (yX8_apart, cX8_apart, 878, 876, 877, 68),
  (yX8_tells, cX8_tells, 912, 910, 911, 68),
  (yX8_telling, cX8_telling, 924, 922, 923, 68),
  (yX8_leaves, cX8_leaves, 928, 926, 927, 68),
  (yX8_cluster, cX8_cluster, 961, 959, 960, 68),
  (yX8_cost, cX8_cost, 979, 977, 978, 68),
  (yX8_drawn, cX8_drawn, 993, 991, 992, 68),
  (yX8_chance, cX8_chance, 1007, 1005, 1006, 68),
  (yX8_film, cX8_film, 1015, 1013, 1014, 68),
  (yX8_lay, cX8_lay, 1030, 1028, 1029, 68),
  (yX8_image, cX8_image, 1041, 1039, 1040, 68),
  (yX8_back, cX8_back, 1045, 1043, 1044, 68),
  (yX8_count, cX8_count, 1049, 1047, 1048, 68),
  (yX8_sheet, cX8_sheet, 1070, 1068, 1069, 68),
  (yX8_put, cX8_put, 1074, 1072, 1073, 68),
  (yX8_item, cX8_item, 1082, 1080, 1081, 68),
  (yX8_copy, cX8_copy, 1086, 1084, 1085, 68),
  (yX8_isTwelfths, cX8_isTwelfths, 422, 421, 0, 68),
  (yX8_isHint, cX8_isHint, 446, 445, 0, 68),
  (yX8_isLine, cX8_isLine, 806, 805, 0, 68),
  (yX8_isSheet, cX8_isSheet, 832, 831, 0, 68),
  (yX8_isSort, cX8_isSort, 1033, 1032, 0, 68),
  (yX8_fraction, cX8_fraction, 817, 816, 0, 68),
  (yX8_greatestDivisor, cX8_greatestDivisor, 821, 820, 0, 68),
  (yX8_oddsIn, cX8_oddsIn, 810, 809, 7, 68),
  (yX8_tellsValues, cX8_tellsValues, 840, 839, 8, 68),
  (yX8_tellsEachNodeOnce, cX8_tellsEachNodeOnce, 987, 986, 14, 68),
  (yX8_doClause, cX8_doClause, 557, 556, 6, 68)]
def mTab3 : List (MethodName × ByteArray × Nat × Nat × Nat × Nat) := [(yX8_noneIfNine, cX8_noneIfNine, 560, 559, 0, 68),
  (yX9_in, cX9_in, 1206, 1205, 0, 80),
  (yX9_has, cX9_has, 1442, 1441, 0, 80),
  (yX9_bits, cX9_bits, 1497, 1496, 0, 80),
  (yX9_init, cX9_init, 1096, 1095, 0, 80),
  (yX9_copies, cX9_copies, 1422, 1421, 0, 80),
  (yX9_many, cX9_many, 1218, 1217, 18, 80),
  (yX9_is, cX9_is, 1226, 1225, 19, 80),
  (yX9_isNode, cX9_isNode, 1214, 1213, 17, 80),
  (yX9_isValue, cX9_isValue, 1243, 1242, 22, 80),
  (yX9_rowsOf, cX9_rowsOf, 1230, 1229, 20, 80),
  (yX9_isParent, cX9_isParent, 1210, 1209, 16, 80),
  (yX9_node, cX9_node, 1201, 1199, 1200, 80),
  (yX9_row, cX9_row, 1222, 1220, 1221, 80),
  (yX9_becomes, cX9_becomes, 1239, 1238, 21, 80),
  (yX9_told, cX9_told, 1235, 1233, 1234, 80),
  (yX9_done, cX9_done, 1247, 1245, 1246, 80),
  (yX9_isHinted, cX9_isHinted, 1256, 1255, 23, 80),
  (yX9_hint, cX9_hint, 1251, 1249, 1250, 80),
  (yX9_of, cX9_of, 1260, 1258, 1259, 80),
  (yX9_cell, cX9_cell, 1265, 1263, 1264, 80),
  (yX9_feed, cX9_feed, 1269, 1267, 1268, 80),
  (yX9_byteAt, cX9_byteAt, 1290, 1289, 27, 80),
  (yX9_blanks, cX9_blanks, 1286, 1285, 26, 80),
  (yX9_wrong, cX9_wrong, 1304, 1303, 30, 80),
  (yX9_isLetter, cX9_isLetter, 1300, 1299, 29, 80),
  (yX9_isWord, cX9_isWord, 1296, 1295, 28, 80),
  (yX9_word, cX9_word, 1282, 1281, 25, 80),
  (yX9_number, cX9_number, 1311, 1310, 31, 80),
  (yX9_needed, cX9_needed, 1307, 1306, 0, 80),
  (yX9_clause, cX9_clause, 1278, 1277, 24, 80),
  (yX9_orNone, cX9_orNone, 1321, 1320, 0, 80),
  (yX9_isDone, cX9_isDone, 1317, 1316, 32, 80),
  (yX9_text, cX9_text, 1274, 1272, 1273, 80),
  (yX9_puts, cX9_puts, 1337, 1336, 34, 80),
  (yX9_spells, cX9_spells, 1341, 1340, 35, 80),
  (yX9_prints, cX9_prints, 1333, 1332, 33, 80),
  (yX9_print, cX9_print, 1329, 1327, 1328, 80),
  (yX9_numberOf, cX9_numberOf, 1369, 1368, 41, 80),
  (yX9_same, cX9_same, 1373, 1372, 42, 80)]
def mTab4 : List (MethodName × ByteArray × Nat × Nat × Nat × Nat) := [(yX9_numberNow, cX9_numberNow, 1365, 1364, 40, 80),
  (yX9_factor, cX9_factor, 1361, 1360, 39, 80),
  (yX9_stands, cX9_stands, 1357, 1356, 38, 80),
  (yX9_goes, cX9_goes, 1353, 1352, 37, 80),
  (yX9_all, cX9_all, 1349, 1348, 36, 80),
  (yX9_free, cX9_free, 1395, 1394, 45, 80),
  (yX9_weight, cX9_weight, 1345, 1343, 1344, 80),
  (yX9_power, cX9_power, 1377, 1375, 1376, 80),
  (yX9_lowest, cX9_lowest, 1399, 1398, 0, 80),
  (yX9_oddsNow, cX9_oddsNow, 1391, 1390, 44, 80),
  (yX9_isAsked, cX9_isAsked, 1387, 1386, 43, 80),
  (yX9_odds, cX9_odds, 1383, 1381, 1382, 80),
  (yX9_both, cX9_both, 1403, 1401, 1402, 80),
  (yX9_isTold, cX9_isTold, 1414, 1413, 46, 80),
  (yX9_shown, cX9_shown, 1407, 1405, 1406, 80),
  (yX9_would, cX9_would, 1419, 1417, 1418, 80),
  (yX9_without, cX9_without, 1427, 1425, 1426, 80),
  (yX9_likely, cX9_likely, 1431, 1429, 1430, 80),
  (yX9_isOver, cX9_isOver, 1446, 1445, 48, 80),
  (yX9_isHeard, cX9_isHeard, 1454, 1453, 50, 80),
  (yX9_isThrough, cX9_isThrough, 1450, 1449, 49, 80),
  (yX9_isWay, cX9_isWay, 1439, 1438, 47, 80),
  (yX9_apart, cX9_apart, 1435, 1433, 1434, 80),
  (yX9_byTwos, cX9_byTwos, 1462, 1461, 51, 80),
  (yX9_tellsOf, cX9_tellsOf, 1466, 1465, 52, 80),
  (yX9_tells, cX9_tells, 1458, 1456, 1457, 80),
  (yX9_telling, cX9_telling, 1470, 1468, 1469, 80),
  (yX9_pairs, cX9_pairs, 1486, 1485, 55, 80),
  (yX9_nears, cX9_nears, 1482, 1481, 54, 80),
  (yX9_nearPairs, cX9_nearPairs, 1571, 1570, 65, 80),
  (yX9_fillOf, cX9_fillOf, 1490, 1489, 56, 80),
  (yX9_leavesAs, cX9_leavesAs, 1494, 1493, 57, 80),
  (yX9_order, cX9_order, 1478, 1477, 53, 80),
  (yX9_leaves, cX9_leaves, 1474, 1472, 1473, 80),
  (yX9_cluster, cX9_cluster, 1505, 1504, 58, 80),
  (yX9_cluster_, cX9_cluster_, 1501, 1499, 1500, 80),
  (yX9_costNow, cX9_costNow, 1513, 1512, 59, 80),
  (yX9_isOrder, cX9_isOrder, 1517, 1516, 60, 80),
  (yX9_cost, cX9_cost, 1509, 1507, 1508, 80),
  (yX9_draws, cX9_draws, 1525, 1524, 61, 80)]
def mTab5 : List (MethodName × ByteArray × Nat × Nat × Nat × Nat) := [(yX9_drawn, cX9_drawn, 1521, 1519, 1520, 80),
  (yX9_isAsFound, cX9_isAsFound, 1535, 1534, 62, 80),
  (yX9_chance, cX9_chance, 1530, 1528, 1529, 80),
  (yX9_film, cX9_film, 1539, 1537, 1538, 80),
  (yX9_founds, cX9_founds, 1551, 1550, 63, 80),
  (yX9_lay, cX9_lay, 1547, 1545, 1546, 80),
  (yX9_image, cX9_image, 1555, 1553, 1554, 80),
  (yX9_back, cX9_back, 1559, 1557, 1558, 80),
  (yX9_countsOf, cX9_countsOf, 1567, 1566, 64, 80),
  (yX9_worlds, cX9_worlds, 1575, 1574, 66, 80),
  (yX9_count, cX9_count, 1563, 1561, 1562, 80),
  (yX9_isSheet, cX9_isSheet, 1410, 1409, 0, 80),
  (yX9_sheet, cX9_sheet, 1543, 1541, 1542, 80),
  (yX9_put, cX9_put, 1580, 1578, 1579, 80),
  (yX9_item, cX9_item, 1584, 1582, 1583, 80),
  (yX9_copy, cX9_copy, 1588, 1586, 1587, 80),
  (yJ5_init_d00df, cJ5_init_d00df, 292, 291, 0, 75),
  (yJ5_length_8abf5, cJ5_length_8abf5, 752, 751, 0, 75),
  (yJ5_ensureCapacityInternal_d00df, cJ5_ensureCapacityInternal_d00df, 589, 588, 0, 75),
  (yJ5_newCapacity_0f7a4, cJ5_newCapacity_0f7a4, 593, 592, 0, 75),
  (yJ5_inflate_da8c8, cJ5_inflate_da8c8, 689, 688, 0, 75),
  (yJ5_setLength_d00df, cJ5_setLength_d00df, 585, 584, 0, 75),
  (yJ5_charAt_5068e, cJ5_charAt_5068e, 759, 758, 0, 75),
  (yJ5_append_cf1ce, cJ5_append_cf1ce, 717, 716, 0, 75),
  (yJ5_appendNull_278bc, cJ5_appendNull_278bc, 721, 720, 0, 75),
  (yJ5_append_3fe6f, cJ5_append_3fe6f, 682, 681, 0, 75),
  (yJ5_append_c97b9, cJ5_append_c97b9, 645, 644, 0, 75),
  (yJ5_isLatin1_aae02, cJ5_isLatin1_aae02, 621, 618, 0, 75),
  (yJ5_inflateIfNeededFor_a7421, cJ5_inflateIfNeededFor_a7421, 733, 732, 0, 75),
  (yJ5_putStringAt_47b60, cJ5_putStringAt_47b60, 729, 728, 0, 75),
  (yJ6_getChars_ba4f3, cJ6_getChars_ba4f3, 651, 650, 0, 88),
  (yJ6_stringSize_0f7a4, cJ6_stringSize_0f7a4, 648, 647, 0, 88),
  (yJ6_bitCount_0f7a4, cJ6_bitCount_0f7a4, 949, 948, 0, 88),
  (yJ9_max_7cf53, cJ9_max_7cf53, 414, 413, 0, 81),
  (yJ9_max_f86c9, cJ9_max_f86c9, 920, 919, 0, 81),
  (yJ9_min_7cf53, cJ9_min_7cf53, 399, 398, 0, 81),
  (yJ0_length_8abf5, cJ0_length_8abf5, 497, 495, 496, 77),
  (yJ0_charAt_5068e, cJ0_charAt_5068e, 506, 504, 505, 77),
  (yJ0_getBytes_840e7, cJ0_getBytes_840e7, 738, 736, 737, 77),
  (yJ0_coder_7d493, cJ0_coder_7d493, 501, 499, 500, 77)]
def mTab6 : List (MethodName × ByteArray × Nat × Nat × Nat × Nat) := [(yJ0_isLatin1_aae02, cJ0_isLatin1_aae02, 510, 508, 509, 77),
  (yJ0_checkIndex_df160, cJ0_checkIndex_df160, 516, 515, 0, 77),
  (yJ0_checkBoundsOffCount_cabcc, cJ0_checkBoundsOffCount_cabcc, 701, 700, 0, 77),
  (yJ0_checkBoundsBeginEnd_23922, cJ0_checkBoundsBeginEnd_23922, 664, 663, 0, 77),
  (yJ4_init_da8c8, cJ4_init_da8c8, 289, 288, 0, 76),
  (yJ4_append_15ec4, cJ4_append_15ec4, 714, 712, 713, 76),
  (yJ4_append_cf468, cJ4_append_cf468, 679, 677, 678, 76),
  (yJ4_append_bf812, cJ4_append_bf812, 642, 640, 641, 76),
  (yJ4_charAt_5068e, cJ4_charAt_5068e, 756, 754, 755, 76),
  (yJ4_setLength_d00df, cJ4_setLength_d00df, 582, 580, 581, 76),
  (yJ4_length_8abf5, cJ4_length_8abf5, 749, 747, 748, 76),
  (yJ1_charAt_3b067, cJ1_charAt_3b067, 513, 512, 0, 82),
  (yJ1_canEncode_fc78d, cJ1_canEncode_fc78d, 685, 684, 0, 82),
  (yJ1_fillNull_b72d1, cJ1_fillNull_b72d1, 624, 623, 0, 82),
  (yJ1_inflate_0e8fd, cJ1_inflate_0e8fd, 692, 691, 0, 82),
  (yJ2_newBytesFor_77867, cJ2_newBytesFor_77867, 298, 297, 0, 78),
  (yJ2_newBytesLength_0f7a4, cJ2_newBytesLength_0f7a4, 301, 300, 0, 78),
  (yJ2_putChar_b72d1, cJ2_putChar_b72d1, 674, 673, 0, 78),
  (yJ2_getChar_3b067, cJ2_getChar_3b067, 534, 533, 0, 78),
  (yJ2_length_9d52b, cJ2_length_9d52b, 530, 529, 0, 78),
  (yJ2_fillNull_b72d1, cJ2_fillNull_b72d1, 633, 632, 0, 78),
  (yJ2_putCharSB_b72d1, cJ2_putCharSB_b72d1, 707, 706, 0, 78),
  (yJ2_getChars_46870, cJ2_getChars_46870, 658, 657, 0, 78),
  (yJ2_putCharsAt_cd4e5, cJ2_putCharsAt_cd4e5, 724, 723, 0, 78),
  (yJ2_charAt_3b067, cJ2_charAt_3b067, 524, 523, 0, 78),
  (yJ2_inflate_0e8fd, cJ2_inflate_0e8fd, 695, 694, 0, 78),
  (yJ2_getChars_ba4f3, cJ2_getChars_ba4f3, 670, 669, 0, 78),
  (yJ2_checkIndex_2214a, cJ2_checkIndex_2214a, 527, 526, 0, 78),
  (yJ2_checkBoundsBeginEnd_d044e, cJ2_checkBoundsBeginEnd_d044e, 661, 660, 0, 78),
  (yJ2_checkBoundsOffCount_d044e, cJ2_checkBoundsOffCount_d044e, 698, 697, 0, 78),
  (yJ7_rangeCheck_23922, cJ7_rangeCheck_23922, 630, 629, 0, 85),
  (yJ7_fill_d0a16, cJ7_fill_d0a16, 1022, 1021, 0, 85),
  (yJ7_fill_53178, cJ7_fill_53178, 773, 772, 0, 85),
  (yJ7_fill_eb02e, cJ7_fill_eb02e, 627, 626, 0, 85),
  (yJ7_copyOf_9075b, cJ7_copyOf_9075b, 605, 604, 0, 85),
  (yJ8_newLength_cabcc, cJ8_newLength_cabcc, 596, 595, 0, 84),
  (yJ8_hugeLength_7cf53, cJ8_hugeLength_7cf53, 601, 600, 0, 84),
  (yJ3_checkIndex_8e157, cJ3_checkIndex_8e157, 521, 520, 0, 83),
  (yJ3_checkFromToIndex_8c36e, cJ3_checkFromToIndex_8c36e, 667, 666, 0, 83),
  (yJ3_checkFromIndexSize_8c36e, cJ3_checkFromIndexSize_8c36e, 704, 703, 0, 83)]
def mTab7 : List (MethodName × ByteArray × Nat × Nat × Nat × Nat) := [(yL_law, cL_law, 0, 0, 0, 67)]
def mTab : List (List (MethodName × ByteArray × Nat × Nat × Nat × Nat)) := [mTab0, mTab1, mTab2, mTab3, mTab4, mTab5, mTab6, mTab7]
/-- a method number is 40 * part + place -/
def mT (M : Nat) : MethodName × ByteArray × Nat × Nat × Nat × Nat := (mTab.getD (M / 40) []).getD (M % 40) (⟨"", "", ""⟩, ⟨#[]⟩, 0, 0, 0, 0)
def dcd (b : ByteArray) (pc : Nat) (i : Instr) (l : Nat) : Bool := match decode b pc with
  | .ok (i', l') => decide (i' = i) && l'.beq l
  | _ => false
def wAt (p : Nat) (w : Jvm.Cond) : Bool := decide (lw_tbl[p]? = some w) && goodWord w
/-- words on methods of the builder's own upper part that follow from the tables' -/
def upL : List MethodName := [yJ5_ensureCapacityInternal_d00df, yJ5_newCapacity_0f7a4, yJ5_inflate_da8c8, yJ5_appendNull_278bc, yJ5_putStringAt_47b60, yJ5_inflateIfNeededFor_a7421]
def SEL2 : List Jvm.Cond := upL.map fun y => .selects "java/lang/StringBuilder" y y
def wS (w : Jvm.Cond) : Bool := (decide (lw_tbl[620]? = some w) || decide (w ∈ SEL2)) && goodWord w
/-- where a method's sameMethod word stands -/
def smT : List (Nat × Nat) := [(221, 1590), (218, 1591), (219, 1592), (226, 1593), (225, 1594), (220, 1595), (223, 1596), (224, 1597), (229, 1598), (228, 1599), (217, 1600), (222, 1601), (227, 619)]
def smP (M : Nat) : Nat := ((smT.filter fun p => p.1.beq M).headD (0, 0)).2
def nestL : List (String × Nat × MethodName) := [("FindingsWeb$Web", 17, ⟨"FindingsWeb$Node", "<init>", "()V"⟩), ("FindingsWeb", 24, ⟨"FindingsWeb$Worlds", "<init>", "()V"⟩), ("FindingsWeb", 31, ⟨"FindingsWeb$Leaving", "<init>", "()V"⟩), ("FindingsWeb", 38, ⟨"FindingsWeb$Tree", "<init>", "()V"⟩), ("FindingsWeb", 45, ⟨"FindingsWeb$Tape", "<init>", "()V"⟩), ("FindingsWeb", 63, ⟨"FindingsWeb$Sheet", "<init>", "()V"⟩)]
def fldOK (own : String) (idx res pos : Nat) : Bool := match vwCl[res / 64]? with
  | some (_, T, N) => Nat.blt (res % 64) N && (Nat.blt (res % 64) (nF (res / 64)) && wAt pos (.fieldLink own idx (T (res % 64)).1 (T (res % 64)).2.1 (T (res % 64)).2.2.1))
  | none => false
def finOK (own : String) (ini : Bool) (res : Nat) : Bool := match vwCl[res / 64]? with
  | some (_, T, _) => !(T (res % 64)).2.2.2 || (ini && decide ((T (res % 64)).1 = own))
  | none => false
def notMH (y : MethodName) (n : Nat) : Bool := decide (y.cls ≠ "java/lang/invoke/MethodHandle") && (decide (y.cls ≠ "java/lang/invoke/VarHandle") && decide ((parseMethodDescriptor y.desc).map (fun d => d.parameters.length) = some n))
def nmK (q : MethodName) (t : Nat) : Bool := match vwCl[t]? with
  | some (C, _, _) => decide (q.cls = C)
  | none => false
def calOK (k : Nat) (own : String) (idx res pos : Nat) : Bool :=
  let q := mT (res % 1024)
  (bif k.beq 0 then (res / 65536).beq 0 && (notMH q.1 (res / 1024 % 64) && (wAt pos (.methodLink own idx q.1) && wAt q.2.2.2.1 (.static q.1)))
   else bif k.beq 1 then Nat.blt 0 (res / 65536) && (Nat.blt 0 (res / 1024 % 64) && (notMH q.1 (res / 1024 % 64 - 1) && (wAt pos (.methodLink own idx q.1) && (wAt q.2.2.2.1 (.instanceMethod q.1) &&
     ((nmK q.1 (res / 65536 - 1) && wAt q.2.2.2.2.1 (.selects q.1.cls q.1 q.1)) || (((res / 65536).beq 1 && (decide (q.1.cls = "java/lang/AbstractStringBuilder") && (wS (.selects "java/lang/StringBuilder" q.1 q.1) && wAt (smP (res % 1024)) (.sameMethod q.1.cls q.1.cls q.1.name q.1.desc)))) || ((res / 65536).beq 47 && (decide (q.1.cls = "java/lang/String") && wAt q.2.2.2.2.1 (.selects q.1.cls q.1 q.1)))))))))
   else (Nat.blt 0 (res / 65536) && Nat.ble (res / 65536) 40) && (Nat.blt 0 (res / 1024 % 64) && (notMH q.1 (res / 1024 % 64 - 1) &&
     (((wAt pos (.methodLink own idx q.1) || decide ((own, idx, q.1) ∈ nestL)) && (wAt q.2.2.2.1 (.instanceMethod q.1) && (decide (q.1.name = "<init>") && decide ((tab (res % 1024)).2.1 = none))))
      || ((res / 65536).beq 1 && (wAt pos (.methodLink own idx q.1) && (wAt q.2.2.2.1 (.instanceMethod q.1) && (decide (q.1.name ≠ "<init>") && (decide (own = "java/lang/StringBuilder") && (decide (q.1.cls = "java/lang/AbstractStringBuilder") && wAt (smP (res % 1024)) (.sameMethod q.1.cls q.1.cls q.1.name q.1.desc)))))))))))
/-- the texts: by which class, at which entry, how they read -/
def txT : List (String × Nat × String) := [("FindingsWeb$Tape", 74, "node"), ("FindingsWeb$Tape", 76, "most"), ("FindingsWeb$Tape", 78, "least"), ("FindingsWeb$Tape", 80, "sum"), ("FindingsWeb$Tape", 82, "row"), ("FindingsWeb$Tape", 84, "told"), ("FindingsWeb$Tape", 86, "done"), ("FindingsWeb$Tape", 88, "hint"), ("FindingsWeb$Node", 89, " most"), ("FindingsWeb$Node", 91, " least"), ("FindingsWeb$Node", 93, " sum"), ("FindingsWeb$Node", 98, " <"), ("FindingsWeb$Node", 100, " told="), ("FindingsWeb$Node", 102, " done="), ("FindingsWeb$Node", 104, " hint ")]
def txOK (own : String) (i k : Nat) : Bool := match txT[k]? with
  | some q => decide (own = q.1) && q.2.1.beq i
  | none => false
/-- the fields of the JDK's that are read: whose, name, kind -/
def gsT (r : Nat) : String × String × String := bif r.beq 0 then ("java/lang/String", "COMPACT_STRINGS", "Z") else bif r.beq 1 then ("jdk/internal/util/Preconditions", "SIOOBE_FORMATTER", "Ljava/util/function/BiFunction;") else bif r.beq 6 then ("java/lang/Integer", "DigitOnes", "[B") else bif r.beq 7 then ("java/lang/Integer", "DigitTens", "[B") else ("FindingsWeb$Tape", "NEEDS", "[I")
def gsOK (r : Nat) : Bool := r.beq 0 || (r.beq 1 || (r.beq 5 || (r.beq 6 || r.beq 7)))
def chkE (own : String) (ini : Bool) (e : Instr × Nat × Nat × Nat) : Bool := match e.1 with
  | .iconst _ | .lconst _ | .iload_n _ | .lload_n _ | .aload_n _ | .istore_n _ | .lstore_n _ | .astore_n _ | .iadd | .isub | .imul | .iand | .ior | .ixor | .ishl | .ishr | .iushr | .idiv | .irem | .ineg
  | .ladd | .lmul | .land | .lor | .ldiv | .lrem | .lshl | .lcmp | .i2l | .l2i | .i2b | .i2c | .dup | .pop | .dup_x1 | .dup2 | .iaload | .baload | .laload | .aaload | .iastore | .bastore | .lastore | .aastore | .arraylength | .ireturn | .lreturn | .areturn | .return_ => e.2.1.beq 1
  | .bipush _ | .iload _ | .lload _ | .aload _ | .istore _ | .lstore _ | .astore _ => e.2.1.beq 2
  | .sipush _ | .iinc _ _ | .ifCond _ _ | .if_icmp _ _ | .goto _ | .ifnonnull _ => e.2.1.beq 3
  | .tableswitch _ _ _ _ | .lookupswitch _ _ => true
  | .athrow => true
  | .getfield i => e.2.1.beq 3 && (bif (e.2.2.1 / 64).beq 46 then ((e.2.2.1 % 64).beq 0 && wAt e.2.2.2 (.fieldLink own i "java/lang/String" "value" "[B")) || ((e.2.2.1 % 64).beq 1 && wAt e.2.2.2 (.fieldLink own i "java/lang/String" "coder" "B")) else fldOK own i e.2.2.1 e.2.2.2)
  | .putfield i => e.2.1.beq 3 && (fldOK own i e.2.2.1 e.2.2.2 && finOK own ini e.2.2.1)
  | .getstatic i => e.2.1.beq 3 && (gsOK e.2.2.1 && wAt e.2.2.2 (.fieldLink own i (gsT e.2.2.1).1 (gsT e.2.2.1).2.1 (gsT e.2.2.1).2.2))
  | .new i => e.2.1.beq 3 && (match vwCl[e.2.2.1]? with
    | some (C, _, _) => wAt e.2.2.2 (.classLink own i C)
    | none => false)
  | .newarray t => e.2.1.beq 2 && wAt e.2.2.2 (.arrayClass (newarray.typeOf t))
  | .anewarray i => e.2.1.beq 3 && ((e.2.2.1.beq 24 && wAt e.2.2.2 (.classLink own i "FindingsWeb$Node")) || (e.2.2.1.beq 25 && wAt e.2.2.2 (.classLink own i "FindingsWeb$Sheet")))
  | .ldc i => e.2.1.beq 2 && (bif (e.2.2.1 % 2).beq 0 then wAt e.2.2.2 (.constant own i (Int32.ofNat (e.2.2.1 / 2))) else txOK own i (e.2.2.1 / 2))
  | .ldc_w i => e.2.1.beq 3 && ((e.2.2.1 % 2).beq 0 && wAt e.2.2.2 (.constant own i (Int32.ofNat (e.2.2.1 / 2))))
  | .ldc2_w i => e.2.1.beq 3 && wAt e.2.2.2 (.constantLong own i (Int64.ofNat e.2.2.1))
  | .invokestatic i => e.2.1.beq 3 && (bif isP e.2.2.1 then wAt e.2.2.2 (.methodLink own i (bif e.2.2.1.beq 1001 then arraycopyName else bif e.2.2.1.beq 1002 then Lib.Math.max.name else bif e.2.2.1.beq 1003 then Lib.Math.min.name else Lib.MathLoose.max_long.x)) else calOK 0 own i e.2.2.1 e.2.2.2)
  | .invokevirtual i => e.2.1.beq 3 && calOK 1 own i e.2.2.1 e.2.2.2
  | .invokespecial i => e.2.1.beq 3 && (bif e.2.2.1.beq 1000 then wAt e.2.2.2 (.methodLink own i objectInit) else calOK 2 own i e.2.2.1 e.2.2.2)
  | _ => false
def isTh (i : Instr) : Bool := match i with
  | .athrow => true
  | _ => false
def chkL (b : ByteArray) (own : String) (ini : Bool) : Nat → List (Instr × Nat × Nat × Nat) → Bool
  | _, [] => true
  | pc, e :: r => (isTh e.1 || dcd b pc e.1 e.2.1) && (chkE own ini e && chkL b own ini (pc + e.2.1) r)
def isAr (i : Instr) : Bool := match i with
  | .areturn => true
  | _ => false
def isRf (r : Option FieldType) : Bool := match r with
  | some (.object _) => true
  | some (.array _) => true
  | _ => false
def mOK (M : Nat) : Bool := Nat.ble (tab M).2.2 40 && (plainName (mT M).1.cls && (wAt (mT M).2.2.1 (.code (mT M).1 (mT M).2.1 (tab M).2.2 (tab M).2.1) && (wAt (mT M).2.2.2.2.2 (.initialized (mT M).1.cls) && (isRf (tab M).2.1 || (tab M).1.all (fun e => !(isAr e.1))))))
def chkM (M : Nat) : Bool := mOK M && chkL (mT M).2.1 (mT M).1.cls (decide ((mT M).1.name = "<init>")) 0 (tab M).1
def cTabD (cT : List (Nat × Nat × List Nat)) (c : Nat) : Nat × Nat × List Nat := cT.getD c (0, 0, [])
def chkCT (cT : List (Nat × Nat × List Nat)) (c : Nat) : Bool := match vwCl[c]? with
  | some (C, T, N) => N.beq (nF c) && (wAt (cTabD cT c).1 (.instantiable C N) && (wAt (cTabD cT c).2.1 (.initialized C) && (List.range N).all fun k => wAt ((cTabD cT c).2.2.getD k 0) (u_lay C T k)))
  | none => false
def cTab : List (Nat × Nat × List Nat) := [(286, 76, [307, 309, 311, 313]), (202, 72, [215, 217, 219, 221]), (106, 70, [142, 144, 146, 148, 150, 152, 154, 156, 158, 160]), (319, 79, [330, 332, 334]), (251, 74, [268, 270, 272, 274, 276, 278, 280, 282]), (225, 73, [239, 241, 243, 245, 247]), (99, 69, [174, 176]), (180, 71, [192, 194, 196, 198]), (91, 68, [348, 350, 352, 354, 356, 358, 360, 362, 364, 366]), (1093, 80, [1130, 1132, 1134, 1136, 1138, 1140, 1142, 1144, 1146, 1148, 1150, 1152, 1154, 1156, 1158, 1160, 1162, 1164, 1166, 1168, 1170, 1172, 1174, 1176, 1178, 1180, 1182, 1184, 1186, 1188, 1190, 1192, 1194])]
theorem cTab_ok : (List.range 10).all (chkCT cTab) = true := by decide +kernel
