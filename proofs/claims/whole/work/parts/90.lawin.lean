/-! the words that the law stands on, by their places in the tables -/
theorem lw_mem {big : List Cond} (ws : List Cond) (ps : List Nat) (hp : ws = ps.filterMap (fun i => big[i]?)) : ∀ w ∈ ws, w ∈ big := by
  intro w hw
  rw [hp] at hw
  obtain ⟨i, -, hi⟩ := List.mem_filterMap.mp hw
  exact List.mem_of_getElem? hi
theorem lw_app {big a b : List Cond} (ha : ∀ w ∈ a, w ∈ big) (hb : ∀ w ∈ b, w ∈ big) : ∀ w ∈ a ++ b, w ∈ big := fun w h => (List.mem_append.mp h).elim (ha w) (hb w)
set_option maxRecDepth 20000 in
theorem inL_wsL_law_r1 : ∀ w ∈ wsL_law_r1, w ∈ lw_tbl := lw_mem wsL_law_r1 [137, 138, 116, 1291, 1292, 128, 139, 140, 141, 142, 143, 144, 145, 146, 117, 431, 432, 249, 250, 120, 433, 307, 308, 121] rfl
set_option maxRecDepth 20000 in
theorem inL_wsL_law_r2 : ∀ w ∈ wsL_law_r2, w ∈ lw_tbl := lw_mem wsL_law_r2 [434, 326, 327, 122, 435, 342, 343, 123, 436, 368, 369, 125, 437, 384, 385, 126, 438, 410, 411, 127, 439, 147, 148, 149] rfl
set_option maxRecDepth 20000 in
theorem inL_wsL_law_r3 : ∀ w ∈ wsL_law_r3, w ∈ lw_tbl := lw_mem wsL_law_r3 [150, 168, 177, 151, 152, 118, 181, 183, 186, 189, 192, 169, 194, 195, 197, 201, 204, 206, 208, 210, 212, 214, 154, 155] rfl
set_option maxRecDepth 20000 in
theorem inL_wsL_law_r4 : ∀ w ∈ wsL_law_r4, w ∈ lw_tbl := lw_mem wsL_law_r4 [156, 157, 158, 159, 172, 173, 174, 175, 119, 176, 252, 253, 254, 255, 257, 259, 261, 262, 263, 264, 309, 310, 311, 312] rfl
set_option maxRecDepth 20000 in
theorem inL_wsL_law_r5 : ∀ w ∈ wsL_law_r5, w ∈ lw_tbl := lw_mem wsL_law_r5 [314, 315, 316, 313, 328, 329, 330, 331, 334, 332, 333, 345, 346, 347, 367, 348, 349, 350, 351, 352, 353, 370, 371, 372] rfl
set_option maxRecDepth 20000 in
theorem inL_wsL_law_r6 : ∀ w ∈ wsL_law_r6, w ∈ lw_tbl := lw_mem wsL_law_r6 [378, 377, 374, 124, 375, 376, 386, 387, 388, 390, 394, 395, 396, 392, 393, 412, 413, 414, 415, 416, 418, 421, 420, 1293] rfl
set_option maxRecDepth 20000 in
theorem inL_wsL_law_r7 : ∀ w ∈ wsL_law_r7, w ∈ lw_tbl := lw_mem wsL_law_r7 [1294, 1295, 1296, 1300, 1301, 1302, 1303, 1305, 1306, 1315, 1320, 1321, 1394, 1322, 1323, 1324, 1325, 1326, 1327, 1329, 1330, 1297, 1298, 1299] rfl
set_option maxRecDepth 20000 in
theorem inL_wsL_law_r8 : ∀ w ∈ wsL_law_r8, w ∈ lw_tbl := lw_mem wsL_law_r8 [459, 460, 461, 462, 463, 464, 465, 466, 467, 468, 469, 471, 472, 473, 474, 475, 476, 1395, 1396, 1397, 1398, 1399, 1400, 1401] rfl
set_option maxRecDepth 20000 in
theorem inL_wsL_law_r9 : ∀ w ∈ wsL_law_r9, w ∈ lw_tbl := lw_mem wsL_law_r9 [1402, 1404, 37, 1405, 1406, 1408, 38, 1409, 1410, 1412, 39, 1413, 477, 478, 479, 480, 481, 482, 483, 484, 1414, 1415, 1416, 1417] rfl
set_option maxRecDepth 20000 in
theorem inL_wsL_law_r10 : ∀ w ∈ wsL_law_r10, w ∈ lw_tbl := lw_mem wsL_law_r10 [1418, 1420, 40, 1421, 1422, 1424, 41, 1425, 485, 486, 487, 488, 193, 489, 490, 491, 492, 493, 494, 495, 1426, 1427, 1428, 1429] rfl
set_option maxRecDepth 20000 in
theorem inL_wsL_law_r11 : ∀ w ∈ wsL_law_r11, w ∈ lw_tbl := lw_mem wsL_law_r11 [1430, 1431, 1432, 496, 497, 498, 499, 256, 500, 501, 502, 503, 504, 505, 506, 507, 1433, 1434, 1435, 1436, 1304, 1437, 1439, 42] rfl
set_option maxRecDepth 20000 in
theorem inL_wsL_law_r12 : ∀ w ∈ wsL_law_r12, w ∈ lw_tbl := lw_mem wsL_law_r12 [1440, 509, 510, 511, 512, 1441, 1442, 1443, 1444, 513, 514, 515, 516, 196, 517, 518, 519, 520, 267, 271, 265, 266, 273, 269] rfl
set_option maxRecDepth 20000 in
theorem inL_wsL_law_r13 : ∀ w ∈ wsL_law_r13, w ∈ lw_tbl := lw_mem wsL_law_r13 [268, 677, 678, 134, 693, 683, 684, 685, 686, 694, 521, 522, 524, 0, 525, 527, 528, 529, 530, 531, 532, 533, 535, 1] rfl
set_option maxRecDepth 20000 in
theorem inL_wsL_law_r14 : ∀ w ∈ wsL_law_r14, w ∈ lw_tbl := lw_mem wsL_law_r14 [536, 538, 539, 540, 129, 541, 1982, 542, 543, 544, 545, 546, 1983, 548, 549, 550, 551, 552, 553, 554, 555, 556, 557, 130] rfl
set_option maxRecDepth 20000 in
theorem inL_wsL_law_r15 : ∀ w ∈ wsL_law_r15, w ∈ lw_tbl := lw_mem wsL_law_r15 [558, 559, 560, 561, 562, 564, 565, 131, 566, 567, 568, 132, 569, 570, 571, 572, 573, 574, 575, 576, 577, 578, 579, 580] rfl
set_option maxRecDepth 20000 in
theorem inL_wsL_law_r16 : ∀ w ∈ wsL_law_r16, w ∈ lw_tbl := lw_mem wsL_law_r16 [582, 584, 586, 587, 588, 589, 591, 2, 592, 270, 593, 594, 133, 595, 596, 598, 3, 599, 600, 601, 602, 603, 605, 4] rfl
set_option maxRecDepth 20000 in
theorem inL_wsL_law_r17 : ∀ w ∈ wsL_law_r17, w ∈ lw_tbl := lw_mem wsL_law_r17 [606, 272, 607, 608, 609, 610, 612, 5, 613, 614, 615, 616, 617, 619, 6, 620, 621, 623, 7, 633, 635, 10, 636, 660] rfl
set_option maxRecDepth 20000 in
theorem inL_wsL_law_r18 : ∀ w ∈ wsL_law_r18, w ∈ lw_tbl := lw_mem wsL_law_r18 [637, 639, 11, 640, 657, 659, 16, 656, 648, 649, 651, 14, 641, 643, 12, 644, 652, 653, 655, 15, 628, 629, 631, 9] rfl
set_option maxRecDepth 20000 in
theorem inL_wsL_law_r19 : ∀ w ∈ wsL_law_r19, w ∈ lw_tbl := lw_mem wsL_law_r19 [632, 625, 627, 8, 645, 647, 13, 661, 663, 17, 664, 624, 665, 667, 18, 668, 669, 671, 19, 672, 675, 676, 679, 680] rfl
set_option maxRecDepth 20000 in
theorem inL_wsL_law_r20 : ∀ w ∈ wsL_law_r20, w ∈ lw_tbl := lw_mem wsL_law_r20 [681, 682, 688, 689, 690, 692, 691, 135, 695, 696, 697, 698, 699, 701, 702, 704, 715, 716, 717, 718, 1445, 1446, 1447, 1448] rfl
set_option maxRecDepth 20000 in
theorem inL_wsL_law_r21 : ∀ w ∈ wsL_law_r21, w ∈ lw_tbl := lw_mem wsL_law_r21 [1308, 1449, 1451, 43, 1452, 1312, 1313, 1319, 1307, 1309, 1453, 1455, 44, 1456, 1310, 1464, 1311, 1468, 1457, 1459, 45, 1460, 1461, 1462] rfl
set_option maxRecDepth 20000 in
theorem inL_wsL_law_r22 : ∀ w ∈ wsL_law_r22, w ∈ lw_tbl := lw_mem wsL_law_r22 [1463, 1465, 1466, 1467, 1469, 1470, 1471, 1472, 1474, 46, 1475, 1314, 1476, 1478, 47, 1479, 1480, 1481, 1482, 1483, 1484, 1485, 1486, 1487] rfl
set_option maxRecDepth 20000 in
theorem inL_wsL_law_r23 : ∀ w ∈ wsL_law_r23, w ∈ lw_tbl := lw_mem wsL_law_r23 [1488, 1489, 1490, 1491, 1492, 1494, 48, 1495, 1496, 1497, 1498, 1499, 1500, 1501, 1502, 1504, 49, 1505, 1506, 1508, 50, 1509, 1510, 1512] rfl
set_option maxRecDepth 20000 in
theorem inL_wsL_law_r24 : ∀ w ∈ wsL_law_r24, w ∈ lw_tbl := lw_mem wsL_law_r24 [51, 1513, 1514, 1516, 52, 1517, 1518, 1520, 53, 1521, 1522, 1524, 54, 1525, 1526, 1528, 55, 1529, 1316, 1317, 1318, 1530, 1532, 56] rfl
set_option maxRecDepth 20000 in
theorem inL_wsL_law_r25 : ∀ w ∈ wsL_law_r25, w ∈ lw_tbl := lw_mem wsL_law_r25 [1533, 1534, 1536, 57, 1537, 1538, 1540, 58, 1541, 1542, 1544, 59, 1545, 1546, 1548, 60, 1549, 1550, 1551, 1552, 1553, 1555, 61, 1556] rfl
set_option maxRecDepth 20000 in
theorem inL_wsL_law_r26 : ∀ w ∈ wsL_law_r26, w ∈ lw_tbl := lw_mem wsL_law_r26 [1557, 1559, 62, 1560, 1561, 1563, 63, 1564, 1565, 1567, 64, 1568, 1569, 1571, 65, 1572, 1573, 1575, 66, 1576, 1577, 1579, 67, 1580] rfl
set_option maxRecDepth 20000 in
theorem inL_wsL_law_r27 : ∀ w ∈ wsL_law_r27, w ∈ lw_tbl := lw_mem wsL_law_r27 [1581, 1583, 68, 1584, 1585, 1587, 69, 1588, 1589, 1591, 70, 1592, 1593, 1595, 71, 1596, 719, 720, 721, 722, 258, 260, 1597, 1598] rfl
set_option maxRecDepth 20000 in
theorem inL_wsL_law_r28 : ∀ w ∈ wsL_law_r28, w ∈ lw_tbl := lw_mem wsL_law_r28 [1599, 1600, 723, 724, 725, 726, 199, 1601, 1602, 1603, 1604, 727, 728, 729, 730, 182, 179, 731, 732, 733, 734, 735, 736, 737] rfl
set_option maxRecDepth 20000 in
theorem inL_wsL_law_r29 : ∀ w ∈ wsL_law_r29, w ∈ lw_tbl := lw_mem wsL_law_r29 [738, 739, 740, 741, 742, 743, 744, 745, 746, 747, 748, 749, 750, 751, 753, 20, 754, 756, 757, 758, 759, 760, 761, 762] rfl
set_option maxRecDepth 20000 in
theorem inL_wsL_law_r30 : ∀ w ∈ wsL_law_r30, w ∈ lw_tbl := lw_mem wsL_law_r30 [763, 1609, 1610, 1611, 1612, 1613, 1615, 72, 1616, 1617, 1619, 73, 1620, 1621, 1623, 74, 1624, 1625, 1627, 75, 1628, 1629, 1631, 76] rfl
set_option maxRecDepth 20000 in
theorem inL_wsL_law_r31 : ∀ w ∈ wsL_law_r31, w ∈ lw_tbl := lw_mem wsL_law_r31 [1632, 764, 765, 766, 767, 768, 769, 770, 771, 773, 774, 775, 776, 777, 778, 779, 780, 781, 782, 870, 783, 784, 785, 786] rfl
set_option maxRecDepth 20000 in
theorem inL_wsL_law_r32 : ∀ w ∈ wsL_law_r32, w ∈ lw_tbl := lw_mem wsL_law_r32 [198, 187, 787, 788, 789, 790, 791, 792, 793, 794, 795, 796, 797, 798, 800, 801, 802, 803, 805, 806, 808, 21, 809, 184] rfl
set_option maxRecDepth 20000 in
theorem inL_wsL_law_r33 : ∀ w ∈ wsL_law_r33, w ∈ lw_tbl := lw_mem wsL_law_r33 [810, 811, 812, 813, 815, 817, 22, 818, 190, 819, 821, 23, 822, 823, 824, 825, 827, 24, 828, 829, 831, 25, 832, 833] rfl
set_option maxRecDepth 20000 in
theorem inL_wsL_law_r34 : ∀ w ∈ wsL_law_r34, w ∈ lw_tbl := lw_mem wsL_law_r34 [835, 26, 836, 178, 838, 839, 840, 841, 842, 843, 844, 845, 846, 847, 848, 849, 850, 851, 853, 27, 854, 855, 856, 857] rfl
set_option maxRecDepth 20000 in
theorem inL_wsL_law_r35 : ∀ w ∈ wsL_law_r35, w ∈ lw_tbl := lw_mem wsL_law_r35 [858, 859, 860, 861, 862, 864, 28, 865, 866, 867, 868, 869, 871, 872, 873, 874, 876, 877, 1633, 1634, 1635, 1636, 1637, 1639] rfl
set_option maxRecDepth 20000 in
theorem inL_wsL_law_r36 : ∀ w ∈ wsL_law_r36, w ∈ lw_tbl := lw_mem wsL_law_r36 [77, 1640, 1641, 1643, 78, 1644, 1645, 1647, 79, 1648, 1649, 1651, 80, 1652, 1653, 1655, 81, 1656, 1657, 1659, 82, 1660, 1661, 1663] rfl
set_option maxRecDepth 20000 in
theorem inL_wsL_law_r37 : ∀ w ∈ wsL_law_r37, w ∈ lw_tbl := lw_mem wsL_law_r37 [83, 1664, 1665, 1667, 84, 1668, 1669, 1671, 85, 1672, 1673, 1674, 1675, 1676, 1678, 86, 1679, 1680, 1681, 1682, 1683, 1684, 1685, 1686] rfl
set_option maxRecDepth 20000 in
theorem inL_wsL_law_r38 : ∀ w ∈ wsL_law_r38, w ∈ lw_tbl := lw_mem wsL_law_r38 [1687, 1688, 1689, 1690, 1691, 1692, 1693, 1694, 1695, 1696, 1697, 1699, 87, 1700, 1701, 1703, 88, 1704, 1705, 1707, 89, 1708, 1709, 1710] rfl
set_option maxRecDepth 20000 in
theorem inL_wsL_law_r39 : ∀ w ∈ wsL_law_r39, w ∈ lw_tbl := lw_mem wsL_law_r39 [1711, 1712, 1714, 90, 1715, 1716, 1718, 91, 1719, 878, 879, 880, 881, 882, 883, 884, 885, 1720, 1721, 1722, 1723, 886, 887, 888] rfl
set_option maxRecDepth 20000 in
theorem inL_wsL_law_r40 : ∀ w ∈ wsL_law_r40, w ∈ lw_tbl := lw_mem wsL_law_r40 [889, 890, 891, 893, 29, 894, 895, 896, 897, 898, 899, 900, 901, 902, 903, 200, 904, 905, 906, 907, 908, 909, 910, 911] rfl
set_option maxRecDepth 20000 in
theorem inL_wsL_law_r41 : ∀ w ∈ wsL_law_r41, w ∈ lw_tbl := lw_mem wsL_law_r41 [912, 913, 914, 915, 916, 917, 918, 919, 920, 921, 922, 923, 136, 924, 925, 926, 927, 928, 1724, 1725, 1726, 1727, 1728, 1730] rfl
set_option maxRecDepth 20000 in
theorem inL_wsL_law_r42 : ∀ w ∈ wsL_law_r42, w ∈ lw_tbl := lw_mem wsL_law_r42 [92, 1731, 1732, 1734, 93, 1735, 1736, 1738, 94, 1739, 1740, 1742, 95, 1743, 1744, 1745, 1746, 929, 930, 931, 932, 700, 933, 934] rfl
set_option maxRecDepth 20000 in
theorem inL_wsL_law_r43 : ∀ w ∈ wsL_law_r43, w ∈ lw_tbl := lw_mem wsL_law_r43 [936, 30, 937, 938, 939, 940, 941, 942, 943, 944, 945, 946, 947, 1747, 1748, 1749, 1750, 1751, 1753, 96, 1754, 1755, 1756, 1757] rfl
set_option maxRecDepth 20000 in
theorem inL_wsL_law_r44 : ∀ w ∈ wsL_law_r44, w ∈ lw_tbl := lw_mem wsL_law_r44 [1758, 1759, 1760, 948, 949, 950, 951, 952, 953, 954, 955, 956, 957, 958, 959, 960, 961, 962, 963, 1761, 1762, 1763, 1764, 1765] rfl
set_option maxRecDepth 20000 in
theorem inL_wsL_law_r45 : ∀ w ∈ wsL_law_r45, w ∈ lw_tbl := lw_mem wsL_law_r45 [1767, 97, 1768, 964, 965, 966, 967, 160, 968, 969, 970, 971, 973, 975, 31, 976, 1605, 1606, 1607, 1608, 977, 978, 979, 980] rfl
set_option maxRecDepth 20000 in
theorem inL_wsL_law_r46 : ∀ w ∈ wsL_law_r46, w ∈ lw_tbl := lw_mem wsL_law_r46 [185, 981, 982, 983, 984, 1769, 1770, 1771, 1772, 985, 986, 987, 988, 188, 191, 989, 1773, 1774, 1775, 1776, 990, 991, 992, 993] rfl
set_option maxRecDepth 20000 in
theorem inL_wsL_law_r47 : ∀ w ∈ wsL_law_r47, w ∈ lw_tbl := lw_mem wsL_law_r47 [994, 995, 1777, 1778, 1779, 1780, 996, 997, 998, 999, 1000, 1001, 1002, 1003, 1781, 1782, 1783, 1784, 1004, 1005, 1006, 1007, 1785, 1786] rfl
set_option maxRecDepth 20000 in
theorem inL_wsL_law_r48 : ∀ w ∈ wsL_law_r48, w ∈ lw_tbl := lw_mem wsL_law_r48 [1787, 1788, 1008, 1009, 1010, 1011, 1789, 1790, 1791, 1792, 1793, 1795, 98, 1796, 1012, 1013, 1014, 1015, 1016, 1017, 1018, 1019, 180, 1021] rfl
set_option maxRecDepth 20000 in
theorem inL_wsL_law_r49 : ∀ w ∈ wsL_law_r49, w ∈ lw_tbl := lw_mem wsL_law_r49 [1022, 1023, 1024, 1025, 1026, 1027, 1817, 1818, 1819, 1820, 1821, 1823, 99, 1824, 1825, 1827, 100, 1828, 1028, 1029, 1030, 1031, 1032, 1033] rfl
set_option maxRecDepth 20000 in
theorem inL_wsL_law_r50 : ∀ w ∈ wsL_law_r50, w ∈ lw_tbl := lw_mem wsL_law_r50 [1034, 1035, 1036, 1829, 1830, 1831, 1832, 1833, 1835, 101, 1836, 1037, 1038, 1039, 1040, 1041, 1837, 1838, 1839, 1840, 1042, 1043, 1044, 1045] rfl
set_option maxRecDepth 20000 in
theorem inL_wsL_law_r51 : ∀ w ∈ wsL_law_r51, w ∈ lw_tbl := lw_mem wsL_law_r51 [1046, 1047, 1048, 1049, 1050, 1051, 1052, 1053, 1074, 1097, 1105, 1054, 1056, 1057, 1058, 1059, 1060, 1061, 1062, 1063, 1064, 1066, 1067, 1068] rfl
set_option maxRecDepth 20000 in
theorem inL_wsL_law_r52 : ∀ w ∈ wsL_law_r52, w ∈ lw_tbl := lw_mem wsL_law_r52 [1069, 1070, 1071, 1072, 1073, 1075, 1077, 1078, 1079, 1080, 1087, 1081, 1083, 32, 1084, 1085, 1086, 1088, 1089, 1090, 1091, 1092, 1093, 1094] rfl
set_option maxRecDepth 20000 in
theorem inL_wsL_law_r53 : ∀ w ∈ wsL_law_r53, w ∈ lw_tbl := lw_mem wsL_law_r53 [1095, 1096, 1098, 1100, 33, 1101, 1106, 1107, 1108, 1109, 1841, 1842, 1843, 1844, 1328, 1845, 1847, 102, 1848, 1849, 1851, 103, 1852, 1853] rfl
set_option maxRecDepth 20000 in
theorem inL_wsL_law_r54 : ∀ w ∈ wsL_law_r54, w ∈ lw_tbl := lw_mem wsL_law_r54 [1855, 104, 1856, 1110, 1111, 1112, 1113, 1114, 1115, 1116, 1117, 1857, 1858, 1859, 1860, 1861, 1863, 105, 1864, 1118, 1119, 1120, 1121, 391] rfl
set_option maxRecDepth 20000 in
theorem inL_wsL_law_r55 : ∀ w ∈ wsL_law_r55, w ∈ lw_tbl := lw_mem wsL_law_r55 [1122, 1123, 1124, 1125, 1126, 1127, 1128, 1129, 1130, 1865, 1866, 1867, 1868, 1869, 1871, 106, 1872, 1873, 1875, 107, 1876, 1131, 1132, 1133] rfl
set_option maxRecDepth 20000 in
theorem inL_wsL_law_r56 : ∀ w ∈ wsL_law_r56, w ∈ lw_tbl := lw_mem wsL_law_r56 [1134, 1135, 1877, 1878, 1879, 1880, 1136, 1137, 1138, 1139, 203, 1881, 1882, 1883, 1884, 1140, 1141, 1142, 1143, 417, 419, 1144, 1145, 1146] rfl
set_option maxRecDepth 20000 in
theorem inL_wsL_law_r57 : ∀ w ∈ wsL_law_r57, w ∈ lw_tbl := lw_mem wsL_law_r57 [1147, 1150, 1148, 1149, 1151, 1153, 34, 1154, 202, 1885, 1886, 1887, 1888, 1889, 1891, 108, 1892, 1893, 1895, 109, 1896, 1897, 1899, 110] rfl
set_option maxRecDepth 20000 in
theorem inL_wsL_law_r58 : ∀ w ∈ wsL_law_r58, w ∈ lw_tbl := lw_mem wsL_law_r58 [1900, 1158, 1159, 1160, 1161, 207, 205, 1901, 1902, 1903, 1904, 1162, 1163, 1164, 1165, 1166, 1167, 1168, 1169, 1170, 1171, 1172, 1173, 1174] rfl
set_option maxRecDepth 20000 in
theorem inL_wsL_law_r59 : ∀ w ∈ wsL_law_r59, w ∈ lw_tbl := lw_mem wsL_law_r59 [1175, 1176, 1177, 1178, 1179, 1180, 1181, 1182, 1905, 1906, 1907, 1908, 1909, 1911, 111, 1912, 1913, 1915, 112, 1916, 1183, 1184, 1185, 1186] rfl
set_option maxRecDepth 20000 in
theorem inL_wsL_law_r60 : ∀ w ∈ wsL_law_r60, w ∈ lw_tbl := lw_mem wsL_law_r60 [1188, 1189, 1190, 1187, 1917, 1918, 1919, 1920, 1921, 1191, 1192, 1193, 1194, 209, 1922, 1923, 1924, 1925, 1195, 1196, 1197, 1198, 1199, 1200] rfl
set_option maxRecDepth 20000 in
theorem inL_wsL_law_r61 : ∀ w ∈ wsL_law_r61, w ∈ lw_tbl := lw_mem wsL_law_r61 [1201, 1202, 1203, 1204, 1205, 1926, 1927, 1928, 1929, 1930, 1931, 1932, 1933, 1934, 1935, 1206, 1207, 1208, 1209, 1210, 1211, 1212, 1936, 1937] rfl
set_option maxRecDepth 20000 in
theorem inL_wsL_law_r62 : ∀ w ∈ wsL_law_r62, w ∈ lw_tbl := lw_mem wsL_law_r62 [1938, 1939, 1940, 1941, 1942, 1943, 1944, 1945, 1213, 1214, 1215, 1216, 211, 1946, 1947, 1948, 1949, 1217, 1218, 1219, 1220, 1221, 1222, 1223] rfl
set_option maxRecDepth 20000 in
theorem inL_wsL_law_r63 : ∀ w ∈ wsL_law_r63, w ∈ lw_tbl := lw_mem wsL_law_r63 [1224, 1225, 1226, 1227, 1229, 35, 1230, 1950, 1951, 1952, 1953, 1954, 1956, 113, 1957, 1958, 1960, 114, 1961, 1231, 1232, 1233, 1234, 215] rfl
set_option maxRecDepth 20000 in
theorem inL_wsL_law_r64 : ∀ w ∈ wsL_law_r64, w ∈ lw_tbl := lw_mem wsL_law_r64 [213, 1962, 1963, 1964, 1965, 1235, 1236, 1237, 1238, 1239, 1241, 36, 1242, 1966, 1967, 1968, 1969, 1243, 1244, 1245, 1246, 1247, 1801, 1802] rfl
set_option maxRecDepth 20000 in
theorem inL_wsL_law_r65 : ∀ w ∈ wsL_law_r65, w ∈ lw_tbl := lw_mem wsL_law_r65 [1803, 1804, 1248, 1249, 1250, 1251, 1252, 1253, 1254, 1255, 1805, 1806, 1807, 1808, 1256, 1257, 1258, 1259, 1260, 1809, 1810, 1811, 1812, 1261] rfl
set_option maxRecDepth 20000 in
theorem inL_wsL_law_r66 : ∀ w ∈ wsL_law_r66, w ∈ lw_tbl := lw_mem wsL_law_r66 [1262, 1263, 1264, 1813, 1814, 1815, 1816, 1265, 1266, 1267, 1268, 1797, 1798, 1799, 1800, 1269, 1270, 1271, 1272, 1273, 1274, 1275, 1276, 1278] rfl
set_option maxRecDepth 20000 in
theorem inL_wsL_law_r67 : ∀ w ∈ wsL_law_r67, w ∈ lw_tbl := lw_mem wsL_law_r67 [1279, 1280, 1281, 1970, 1971, 1972, 1973, 1283, 1284, 1285, 1286, 1974, 1975, 1976, 1977, 1287, 1288, 1289, 1290, 1978, 1979, 1980, 1981] rfl
set_option maxRecDepth 20000 in
theorem inL_wsX110 : ∀ w ∈ wsX110, w ∈ lw_tbl := lw_mem wsX110 [440, 442, 444, 446, 448, 450, 452, 454, 456] rfl
set_option maxRecDepth 20000 in
theorem inL_wsX120 : ∀ w ∈ wsX120, w ∈ lw_tbl := lw_mem wsX120 [1331, 1333, 1335, 1337, 1339, 1341, 1343, 1345, 1347, 1349, 1351, 1353, 1355, 1357, 1359, 1361, 1363, 1365, 1367, 1369, 1371, 1373, 1375, 1377, 1379, 1381, 1383, 1385, 1387, 1389, 1391] rfl
set_option maxRecDepth 20000 in
theorem inL_wsX00 : ∀ w ∈ wsX00, w ∈ lw_tbl := lw_mem wsX00 [216, 218, 220, 222, 224, 226, 228, 230, 232, 234, 236, 238, 240, 242, 244, 246] rfl
set_option maxRecDepth 20000 in
theorem inL_wsX60 : ∀ w ∈ wsX60, w ∈ lw_tbl := lw_mem wsX60 [274, 276, 278, 280, 282, 284, 286, 288, 290, 292, 294, 296, 298, 300, 302, 304] rfl
set_option maxRecDepth 20000 in
theorem inL_wsX30 : ∀ w ∈ wsX30, w ∈ lw_tbl := lw_mem wsX30 [317, 319, 321, 323] rfl
set_option maxRecDepth 20000 in
theorem inL_wsX20 : ∀ w ∈ wsX20, w ∈ lw_tbl := lw_mem wsX20 [335, 337, 339] rfl
set_option maxRecDepth 20000 in
theorem inL_wsX70 : ∀ w ∈ wsX70, w ∈ lw_tbl := lw_mem wsX70 [354, 356, 358, 360, 362, 364] rfl
set_option maxRecDepth 20000 in
theorem inL_wsX50 : ∀ w ∈ wsX50, w ∈ lw_tbl := lw_mem wsX50 [379, 381] rfl
set_option maxRecDepth 20000 in
theorem inL_wsX10 : ∀ w ∈ wsX10, w ∈ lw_tbl := lw_mem wsX10 [397, 399, 401, 403, 405, 407] rfl
set_option maxRecDepth 20000 in
theorem inL_wsX40 : ∀ w ∈ wsX40, w ∈ lw_tbl := lw_mem wsX40 [422, 424, 426, 428] rfl
set_option maxRecDepth 20000 in
theorem inL_wsX80 : ∀ w ∈ wsX80, w ∈ lw_tbl := lw_mem wsX80 [161, 163, 165] rfl
set_option maxRecDepth 20000 in
theorem inL_wsX90 : ∀ w ∈ wsX90, w ∈ lw_tbl := lw_mem wsX90 [705, 707, 709, 711] rfl
theorem wsL_law_in : ∀ w ∈ wsL_law, w ∈ lw_tbl := by
  show ∀ w ∈ (wsL_law_r1 ++ (wsL_law_r2 ++ (wsL_law_r3 ++ (wsL_law_r4 ++ (wsL_law_r5 ++ (wsL_law_r6 ++ (wsL_law_r7 ++ (wsL_law_r8 ++ (wsL_law_r9 ++ (wsL_law_r10 ++ (wsL_law_r11 ++ (wsL_law_r12 ++ (wsL_law_r13 ++ (wsL_law_r14 ++ (wsL_law_r15 ++ (wsL_law_r16 ++ (wsL_law_r17 ++ (wsL_law_r18 ++ (wsL_law_r19 ++ (wsL_law_r20 ++ (wsL_law_r21 ++ (wsL_law_r22 ++ (wsL_law_r23 ++ (wsL_law_r24 ++ (wsL_law_r25 ++ (wsL_law_r26 ++ (wsL_law_r27 ++ (wsL_law_r28 ++ (wsL_law_r29 ++ (wsL_law_r30 ++ (wsL_law_r31 ++ (wsL_law_r32 ++ (wsL_law_r33 ++ (wsL_law_r34 ++ (wsL_law_r35 ++ (wsL_law_r36 ++ (wsL_law_r37 ++ (wsL_law_r38 ++ (wsL_law_r39 ++ (wsL_law_r40 ++ (wsL_law_r41 ++ (wsL_law_r42 ++ (wsL_law_r43 ++ (wsL_law_r44 ++ (wsL_law_r45 ++ (wsL_law_r46 ++ (wsL_law_r47 ++ (wsL_law_r48 ++ (wsL_law_r49 ++ (wsL_law_r50 ++ (wsL_law_r51 ++ (wsL_law_r52 ++ (wsL_law_r53 ++ (wsL_law_r54 ++ (wsL_law_r55 ++ (wsL_law_r56 ++ (wsL_law_r57 ++ (wsL_law_r58 ++ (wsL_law_r59 ++ (wsL_law_r60 ++ (wsL_law_r61 ++ (wsL_law_r62 ++ (wsL_law_r63 ++ (wsL_law_r64 ++ (wsL_law_r65 ++ (wsL_law_r66 ++ wsL_law_r67)))))))))))))))))))))))))))))))))))))))))))))))))))))))))))))))))) ++ wsX110 ++ wsX120 ++ wsX00 ++ wsX60 ++ wsX30 ++ wsX20 ++ wsX70 ++ wsX50 ++ wsX10 ++ wsX40 ++ wsX80 ++ wsX90 ++ ([] : List Cond), w ∈ lw_tbl
  exact lw_app (lw_app (lw_app (lw_app (lw_app (lw_app (lw_app (lw_app (lw_app (lw_app (lw_app (lw_app (lw_app (lw_app inL_wsL_law_r1 (lw_app inL_wsL_law_r2 (lw_app inL_wsL_law_r3 (lw_app inL_wsL_law_r4 (lw_app inL_wsL_law_r5 (lw_app inL_wsL_law_r6 (lw_app inL_wsL_law_r7 (lw_app inL_wsL_law_r8 (lw_app inL_wsL_law_r9 (lw_app inL_wsL_law_r10 (lw_app inL_wsL_law_r11 (lw_app inL_wsL_law_r12 (lw_app inL_wsL_law_r13 (lw_app inL_wsL_law_r14 (lw_app inL_wsL_law_r15 (lw_app inL_wsL_law_r16 (lw_app inL_wsL_law_r17 (lw_app inL_wsL_law_r18 (lw_app inL_wsL_law_r19 (lw_app inL_wsL_law_r20 (lw_app inL_wsL_law_r21 (lw_app inL_wsL_law_r22 (lw_app inL_wsL_law_r23 (lw_app inL_wsL_law_r24 (lw_app inL_wsL_law_r25 (lw_app inL_wsL_law_r26 (lw_app inL_wsL_law_r27 (lw_app inL_wsL_law_r28 (lw_app inL_wsL_law_r29 (lw_app inL_wsL_law_r30 (lw_app inL_wsL_law_r31 (lw_app inL_wsL_law_r32 (lw_app inL_wsL_law_r33 (lw_app inL_wsL_law_r34 (lw_app inL_wsL_law_r35 (lw_app inL_wsL_law_r36 (lw_app inL_wsL_law_r37 (lw_app inL_wsL_law_r38 (lw_app inL_wsL_law_r39 (lw_app inL_wsL_law_r40 (lw_app inL_wsL_law_r41 (lw_app inL_wsL_law_r42 (lw_app inL_wsL_law_r43 (lw_app inL_wsL_law_r44 (lw_app inL_wsL_law_r45 (lw_app inL_wsL_law_r46 (lw_app inL_wsL_law_r47 (lw_app inL_wsL_law_r48 (lw_app inL_wsL_law_r49 (lw_app inL_wsL_law_r50 (lw_app inL_wsL_law_r51 (lw_app inL_wsL_law_r52 (lw_app inL_wsL_law_r53 (lw_app inL_wsL_law_r54 (lw_app inL_wsL_law_r55 (lw_app inL_wsL_law_r56 (lw_app inL_wsL_law_r57 (lw_app inL_wsL_law_r58 (lw_app inL_wsL_law_r59 (lw_app inL_wsL_law_r60 (lw_app inL_wsL_law_r61 (lw_app inL_wsL_law_r62 (lw_app inL_wsL_law_r63 (lw_app inL_wsL_law_r64 (lw_app inL_wsL_law_r65 (lw_app inL_wsL_law_r66 (inL_wsL_law_r67))))))))))))))))))))))))))))))))))))))))))))))))))))))))))))))))))) inL_wsX110) inL_wsX120) inL_wsX00) inL_wsX60) inL_wsX30) inL_wsX20) inL_wsX70) inL_wsX50) inL_wsX10) inL_wsX40) inL_wsX80) inL_wsX90) (fun _ h => absurd h List.not_mem_nil)
theorem inlX0 : ∀ w ∈ wsX00, w ∈ wsL_law := fun _ h => List.mem_append_left _ (List.mem_append_left _ (List.mem_append_left _ (List.mem_append_left _ (List.mem_append_left _ (List.mem_append_left _ (List.mem_append_left _ (List.mem_append_left _ (List.mem_append_left _ (List.mem_append_left _ (List.mem_append_right _ h))))))))))
theorem inX0 : ∀ w ∈ wsX00, w ∈ lw_tbl := fun w h => wsL_law_in w (inlX0 w h)
theorem inlX1 : ∀ w ∈ wsX10, w ∈ wsL_law := fun _ h => List.mem_append_left _ (List.mem_append_left _ (List.mem_append_left _ (List.mem_append_left _ (List.mem_append_right _ h))))
theorem inX1 : ∀ w ∈ wsX10, w ∈ lw_tbl := fun w h => wsL_law_in w (inlX1 w h)
theorem inlX2 : ∀ w ∈ wsX20, w ∈ wsL_law := fun _ h => List.mem_append_left _ (List.mem_append_left _ (List.mem_append_left _ (List.mem_append_left _ (List.mem_append_left _ (List.mem_append_left _ (List.mem_append_left _ (List.mem_append_right _ h)))))))
theorem inX2 : ∀ w ∈ wsX20, w ∈ lw_tbl := fun w h => wsL_law_in w (inlX2 w h)
theorem inlX3 : ∀ w ∈ wsX30, w ∈ wsL_law := fun _ h => List.mem_append_left _ (List.mem_append_left _ (List.mem_append_left _ (List.mem_append_left _ (List.mem_append_left _ (List.mem_append_left _ (List.mem_append_left _ (List.mem_append_left _ (List.mem_append_right _ h))))))))
theorem inX3 : ∀ w ∈ wsX30, w ∈ lw_tbl := fun w h => wsL_law_in w (inlX3 w h)
theorem inlX4 : ∀ w ∈ wsX40, w ∈ wsL_law := fun _ h => List.mem_append_left _ (List.mem_append_left _ (List.mem_append_left _ (List.mem_append_right _ h)))
theorem inX4 : ∀ w ∈ wsX40, w ∈ lw_tbl := fun w h => wsL_law_in w (inlX4 w h)
theorem inlX5 : ∀ w ∈ wsX50, w ∈ wsL_law := fun _ h => List.mem_append_left _ (List.mem_append_left _ (List.mem_append_left _ (List.mem_append_left _ (List.mem_append_left _ (List.mem_append_right _ h)))))
theorem inX5 : ∀ w ∈ wsX50, w ∈ lw_tbl := fun w h => wsL_law_in w (inlX5 w h)
theorem inlX6 : ∀ w ∈ wsX60, w ∈ wsL_law := fun _ h => List.mem_append_left _ (List.mem_append_left _ (List.mem_append_left _ (List.mem_append_left _ (List.mem_append_left _ (List.mem_append_left _ (List.mem_append_left _ (List.mem_append_left _ (List.mem_append_left _ (List.mem_append_right _ h)))))))))
theorem inX6 : ∀ w ∈ wsX60, w ∈ lw_tbl := fun w h => wsL_law_in w (inlX6 w h)
theorem inlX7 : ∀ w ∈ wsX70, w ∈ wsL_law := fun _ h => List.mem_append_left _ (List.mem_append_left _ (List.mem_append_left _ (List.mem_append_left _ (List.mem_append_left _ (List.mem_append_left _ (List.mem_append_right _ h))))))
theorem inX7 : ∀ w ∈ wsX70, w ∈ lw_tbl := fun w h => wsL_law_in w (inlX7 w h)
theorem inlX8 : ∀ w ∈ wsX80, w ∈ wsL_law := fun _ h => List.mem_append_left _ (List.mem_append_left _ (List.mem_append_right _ h))
theorem inX8 : ∀ w ∈ wsX80, w ∈ lw_tbl := fun w h => wsL_law_in w (inlX8 w h)
theorem inlX9 : ∀ w ∈ wsX90, w ∈ wsL_law := fun _ h => List.mem_append_left _ (List.mem_append_right _ h)
theorem inX9 : ∀ w ∈ wsX90, w ∈ lw_tbl := fun w h => wsL_law_in w (inlX9 w h)
theorem inX10 : ∀ w ∈ wsX100, w ∈ lw_tbl := by decide +kernel
theorem inlX11 : ∀ w ∈ wsX110, w ∈ wsL_law := fun _ h => List.mem_append_left _ (List.mem_append_left _ (List.mem_append_left _ (List.mem_append_left _ (List.mem_append_left _ (List.mem_append_left _ (List.mem_append_left _ (List.mem_append_left _ (List.mem_append_left _ (List.mem_append_left _ (List.mem_append_left _ (List.mem_append_left _ (List.mem_append_right _ h))))))))))))
theorem inX11 : ∀ w ∈ wsX110, w ∈ lw_tbl := fun w h => wsL_law_in w (inlX11 w h)
theorem inlX12 : ∀ w ∈ wsX120, w ∈ wsL_law := fun _ h => List.mem_append_left _ (List.mem_append_left _ (List.mem_append_left _ (List.mem_append_left _ (List.mem_append_left _ (List.mem_append_left _ (List.mem_append_left _ (List.mem_append_left _ (List.mem_append_left _ (List.mem_append_left _ (List.mem_append_left _ (List.mem_append_right _ h)))))))))))
theorem inX12 : ∀ w ∈ wsX120, w ∈ lw_tbl := fun w h => wsL_law_in w (inlX12 w h)
