set_option maxRecDepth 20000 in
theorem ggL_law_X12_told : GoodIn wsL_law wsX12_told := goodIn_r _ [1195, 240, 241, 5, 242, 189, 190, 191, 898, 899, 900, 901, 147, 1616, 1617, 1618, 1619, 1620, 1621, 1622, 1623, 1624, 1625, 1626, 1627, 1628, 1629, 1630, 1631, 1632, 1633, 1634, 1635, 1636, 1637, 1638, 1639, 1640, 1641, 1642, 1643, 1644, 1645, 1646] rfl (by decide +kernel)
set_option maxRecDepth 20000 in
theorem gL_law_X12_told : GoodIn wsL_law (wsV RL 115 RX12 yX12_told wsX12_told) := goodIn_app (goodIn_of _ (by decide +kernel)) ggL_law_X12_told
set_option maxRecDepth 20000 in
theorem ggL_law_X11_order : GoodIn wsL_law wsX11_order := goodIn_r _ [1199, 15, 32, 36, 1081, 674, 675, 14, 676, 50, 179, 2, 180, 833, 678, 679, 680, 1200, 1201, 1202, 35, 1203, 120, 1204, 1205, 1206, 31, 1207, 115, 116, 111, 114, 113, 1208, 1209, 112, 1210, 461, 462, 463, 1211, 1212, 1213, 1214, 39, 1215, 132, 1216, 1217, 1218, 1219, 971, 972, 973, 974, 975, 976, 1220, 1221, 1222, 1223, 1224, 1225, 1226, 1227, 1228, 79, 80, 81, 1229, 1230, 1231, 1232, 1233, 129, 134, 130, 1234, 814, 372, 815, 133, 1235, 1236, 1237, 1238, 131, 1239, 182, 183, 184, 76, 77, 1240, 741, 742, 23, 743, 99, 744, 745, 746, 747, 748, 749, 61, 60, 750, 751, 752, 291, 753, 754, 755, 756, 757, 471, 758, 759, 760, 761, 762, 763, 764, 765, 766, 96, 767, 768, 769, 770, 771, 772, 773, 774, 775, 776, 777, 778, 779, 780, 98, 781, 782, 783, 784, 785, 786, 97, 787, 788, 789, 790, 791, 792, 793, 794, 795, 452, 453, 796, 797, 798, 799, 800, 801, 802, 803, 804, 805, 806, 807, 808, 1241, 817, 818, 819, 58, 1242, 1243, 1244, 121, 1245, 1246, 1247, 1248, 1249, 1250, 1251, 1252, 1253, 1254, 1255, 1256, 1257, 1607, 1608, 1609, 1610, 1611, 1612, 1613, 1614, 1615, 1647, 1648, 1649, 1650, 1651, 1652, 1653, 1654, 1655, 1656, 1657, 1658, 1659, 1660, 1661, 1662, 1692, 1693, 1686, 1687, 1688, 1689, 1690, 1691, 1694, 1695, 1696, 1697, 1698, 1699, 1679, 1680, 1681, 1682, 1707, 1708, 1709, 1710] rfl (by decide +kernel)
set_option maxRecDepth 20000 in
theorem gL_law_X11_order : GoodIn wsL_law (wsV RL 116 RX11 yX11_order wsX11_order) := goodIn_app (goodIn_of _ (by decide +kernel)) ggL_law_X11_order
set_option maxRecDepth 20000 in
theorem ggL_law_X12_order : GoodIn wsL_law wsX12_order := goodIn_r _ [1261, 1262, 159, 709, 710, 711, 5, 712, 147, 189, 190, 191, 200, 201, 202, 203, 1263, 1264, 1265, 1266, 162, 160, 1267, 1268, 1269, 1270, 161, 898, 899, 900, 901, 1271, 1272, 1273, 1274, 1616, 1617, 1618, 1619, 1620, 1621, 1622, 1623, 1624, 1625, 1626, 1627, 1628, 1629, 1630, 1631, 1632, 1633, 1634, 1635, 1636, 1637, 1638, 1639, 1640, 1641, 1642, 1643, 1644, 1645, 1646] rfl (by decide +kernel)
set_option maxRecDepth 20000 in
theorem gL_law_X12_order : GoodIn wsL_law (wsV RL 119 RX12 yX12_order wsX12_order) := goodIn_app (goodIn_of _ (by decide +kernel)) ggL_law_X12_order
set_option maxRecDepth 20000 in
theorem ggL_law_X11_all : GoodIn wsL_law wsX11_all := goodIn_r _ [1278, 32, 36, 1279, 1280, 1281, 35, 1282, 120, 1204, 1205, 1206, 31, 1207, 115, 116, 111, 114, 113, 1208, 1209, 112, 1210, 461, 462, 463, 1211, 1212, 1213, 1214, 39, 1215, 132, 1216, 1217, 1218, 1219, 971, 972, 973, 974, 975, 976, 1220, 1221, 1222, 1223, 1224, 1225, 1226, 1227, 1228, 79, 80, 81, 1229, 1230, 1231, 1232, 1233, 129, 134, 130, 1234, 814, 372, 815, 133, 1235, 1236, 1237, 1238, 131, 1239, 182, 183, 14, 184, 50, 76, 2, 77, 1240, 741, 742, 23, 743, 99, 744, 745, 746, 747, 748, 749, 61, 60, 750, 751, 752, 291, 753, 754, 755, 756, 757, 471, 179, 180, 758, 759, 760, 761, 762, 678, 679, 680, 763, 764, 765, 766, 96, 767, 768, 769, 770, 771, 772, 773, 774, 775, 776, 777, 778, 779, 780, 98, 781, 782, 783, 784, 785, 786, 97, 787, 788, 789, 790, 791, 792, 793, 794, 795, 452, 453, 796, 797, 798, 799, 800, 801, 802, 803, 804, 805, 806, 807, 808, 1241, 817, 818, 819, 58, 1242, 1243, 1244, 121, 1245, 1246, 1247, 1248, 1249, 1250, 1251, 1252, 1253, 1254, 1255, 1256, 1257, 1607, 1608, 1609, 1610, 1611, 1612, 1613, 1614, 1615, 1692, 1693, 1686, 1687, 1688, 1689, 1690, 1691, 1694, 1695, 1696, 1697, 1698, 1699, 1647, 1648, 1649, 1650, 1651, 1652, 1653, 1654, 1655, 1656, 1657, 1658, 1659, 1660, 1661, 1662, 1679, 1680, 1681, 1682, 1707, 1708, 1709, 1710] rfl (by decide +kernel)
set_option maxRecDepth 20000 in
theorem gL_law_X11_all : GoodIn wsL_law (wsV RL 120 RX11 yX11_all wsX11_all) := goodIn_app (goodIn_of _ (by decide +kernel)) ggL_law_X11_all
set_option maxRecDepth 20000 in
theorem ggL_law_X12_all : GoodIn wsL_law wsX12_all := goodIn_r _ [1286, 1262, 162, 159, 1263, 1264, 1265, 5, 1266, 160, 998, 999, 1000, 1267, 1268, 1269, 1270, 161, 189, 190, 191, 1287, 1288, 1289, 1290, 539, 540, 541, 898, 899, 900, 901, 147, 1271, 1272, 1273, 1274, 1616, 1617, 1618, 1619, 1620, 1621, 1622, 1623, 1624, 1625, 1626, 1627, 1628, 1629, 1630, 1631, 1632, 1633, 1634, 1635, 1636, 1637, 1638, 1639, 1640, 1641, 1642, 1643, 1644, 1645, 1646] rfl (by decide +kernel)
set_option maxRecDepth 20000 in
theorem gL_law_X12_all : GoodIn wsL_law (wsV RL 123 RX12 yX12_all wsX12_all) := goodIn_app (goodIn_of _ (by decide +kernel)) ggL_law_X12_all
set_option maxRecDepth 20000 in
theorem ggL_law_X11_comfort : GoodIn wsL_law wsX11_comfort := goodIn_r _ [1294, 15, 40, 32, 1295, 1104, 730, 731, 14, 732, 733, 670, 671, 672, 50, 179, 2, 180, 734, 678, 679, 680, 172, 173, 174, 1296, 1297, 1298, 39, 1299, 130, 133, 131, 129, 132, 1300, 1204, 1205, 1206, 31, 1207, 115, 116, 111, 114, 113, 1208, 1209, 112, 1210, 461, 462, 463, 1211, 1212, 1213, 1214, 1215, 1216, 1217, 35, 1218, 120, 1219, 971, 972, 973, 974, 975, 976, 1220, 1221, 1222, 1223, 1224, 1225, 1226, 1227, 1228, 79, 80, 81, 1229, 1230, 1231, 1232, 1233, 134, 1234, 814, 372, 815, 1235, 1236, 1237, 1238, 1239, 182, 183, 184, 76, 77, 1240, 741, 742, 23, 743, 99, 744, 745, 746, 747, 748, 749, 61, 60, 750, 751, 752, 291, 753, 754, 755, 756, 757, 471, 758, 759, 760, 761, 762, 763, 764, 765, 766, 96, 767, 768, 769, 770, 771, 772, 773, 774, 775, 776, 777, 778, 779, 780, 98, 781, 782, 783, 784, 785, 786, 97, 787, 788, 789, 790, 791, 792, 793, 794, 795, 452, 453, 796, 797, 798, 799, 800, 801, 802, 803, 804, 805, 806, 807, 808, 1241, 817, 818, 819, 58, 1242, 1243, 1244, 121, 1245, 1246, 1247, 1248, 1249, 1250, 1251, 1252, 1253, 1301, 1302, 1303, 1304, 1254, 1255, 1256, 1257, 1607, 1608, 1609, 1610, 1611, 1612, 1613, 1614, 1615, 1694, 1695, 1696, 1697, 1698, 1699, 1647, 1648, 1649, 1650, 1651, 1652, 1653, 1654, 1655, 1656, 1657, 1658, 1659, 1660, 1661, 1662, 1686, 1687, 1688, 1689, 1690, 1691, 1692, 1693, 1679, 1680, 1681, 1682, 1707, 1708, 1709, 1710] rfl (by decide +kernel)
set_option maxRecDepth 20000 in
theorem gL_law_X11_comfort : GoodIn wsL_law (wsV RL 124 RX11 yX11_comfort wsX11_comfort) := goodIn_app (goodIn_of _ (by decide +kernel)) ggL_law_X11_comfort
set_option maxRecDepth 20000 in
theorem ggL_law_X12_comfort : GoodIn wsL_law wsX12_comfort := goodIn_r _ [1308, 842, 843, 844, 5, 845, 705, 706, 707, 708, 147, 189, 190, 191, 713, 714, 715, 716, 1162, 1163, 1164, 1165, 158, 1309, 1310, 1311, 1312, 1262, 159, 200, 201, 202, 203, 1263, 1264, 1265, 1266, 162, 160, 1313, 1314, 1315, 1316, 192, 193, 194, 195, 216, 217, 218, 219, 850, 851, 852, 853, 854, 855, 856, 857, 154, 858, 859, 860, 861, 862, 863, 864, 865, 866, 867, 868, 869, 149, 870, 871, 872, 873, 155, 157, 874, 875, 876, 877, 878, 879, 880, 881, 882, 883, 884, 885, 886, 887, 888, 889, 890, 891, 892, 893, 894, 895, 896, 897, 898, 899, 900, 901, 1271, 1272, 1273, 1274, 161, 1166, 1167, 1168, 1169, 1267, 1268, 1269, 1270, 1616, 1617, 1618, 1619, 1620, 1621, 1622, 1623, 1624, 1625, 1626, 1627, 1628, 1629, 1630, 1631, 1632, 1633, 1634, 1635, 1636, 1637, 1638, 1639, 1640, 1641, 1642, 1643, 1644, 1645, 1646] rfl (by decide +kernel)
set_option maxRecDepth 20000 in
theorem gL_law_X12_comfort : GoodIn wsL_law (wsV RL 128 RX12 yX12_comfort wsX12_comfort) := goodIn_app (goodIn_of _ (by decide +kernel)) ggL_law_X12_comfort
set_option maxRecDepth 20000 in
theorem ggL_law_X11_ring : GoodIn wsL_law wsX11_ring := goodIn_r _ [1320, 15, 229, 230, 2, 231, 172, 173, 174, 1321, 1246, 1247, 14, 1248, 1249, 817, 818, 819, 58, 179, 180, 1607, 1608, 1609, 1610, 1611, 1612, 1613, 1614, 1615, 1647, 1648, 1649, 1650, 1651, 1652, 1653, 1654, 1655, 1656, 1657, 1658, 1659, 1660, 1661, 1662] rfl (by decide +kernel)
set_option maxRecDepth 20000 in
theorem gL_law_X11_ring : GoodIn wsL_law (wsV RL 129 RX11 yX11_ring wsX11_ring) := goodIn_app (goodIn_of _ (by decide +kernel)) ggL_law_X11_ring
set_option maxRecDepth 20000 in
theorem ggL_law_X12_ring : GoodIn wsL_law wsX12_ring := goodIn_r _ [1325, 240, 241, 5, 242, 189, 190, 191, 1287, 1288, 1289, 1290, 539, 540, 541, 898, 899, 900, 901, 147, 1616, 1617, 1618, 1619, 1620, 1621, 1622, 1623, 1624, 1625, 1626, 1627, 1628, 1629, 1630, 1631, 1632, 1633, 1634, 1635, 1636, 1637, 1638, 1639, 1640, 1641, 1642, 1643, 1644, 1645, 1646] rfl (by decide +kernel)
set_option maxRecDepth 20000 in
theorem gL_law_X12_ring : GoodIn wsL_law (wsV RL 132 RX12 yX12_ring wsX12_ring) := goodIn_app (goodIn_of _ (by decide +kernel)) ggL_law_X12_ring
set_option maxRecDepth 20000 in
theorem ggL_law_X11_cost : GoodIn wsL_law wsX11_cost := goodIn_r _ [1329, 15, 1330, 172, 173, 2, 174, 235, 76, 77, 1607, 1608, 1609, 1610, 1611, 1612, 1613, 1614, 1615, 1647, 1648, 1649, 1650, 1651, 1652, 1653, 1654, 1655, 1656, 1657, 1658, 1659, 1660, 1661, 1662] rfl (by decide +kernel)
set_option maxRecDepth 20000 in
theorem gL_law_X11_cost : GoodIn wsL_law (wsV RL 133 RX11 yX11_cost wsX11_cost) := goodIn_app (goodIn_of _ (by decide +kernel)) ggL_law_X11_cost
set_option maxRecDepth 20000 in
theorem ggL_law_X12_cost : GoodIn wsL_law wsX12_cost := goodIn_r _ [1334, 147, 189, 190, 5, 191, 1616, 1617, 1618, 1619, 1620, 1621, 1622, 1623, 1624, 1625, 1626, 1627, 1628, 1629, 1630, 1631, 1632, 1633, 1634, 1635, 1636, 1637, 1638, 1639, 1640, 1641, 1642, 1643, 1644, 1645, 1646] rfl (by decide +kernel)
set_option maxRecDepth 20000 in
theorem gL_law_X12_cost : GoodIn wsL_law (wsV RL 136 RX12 yX12_cost wsX12_cost) := goodIn_app (goodIn_of _ (by decide +kernel)) ggL_law_X12_cost
set_option maxRecDepth 20000 in
theorem ggL_law_X11_matched : GoodIn wsL_law wsX11_matched := goodIn_r _ [1338, 15, 44, 1339, 1340, 1095, 670, 671, 14, 672, 50, 179, 2, 180, 1341, 1342, 1343, 43, 1344, 139, 142, 1345, 814, 372, 815, 1346, 967, 968, 969, 956, 371, 373, 1347, 953, 954, 955, 1348, 1349, 1350, 1351, 141, 140, 1352, 1151, 1152, 1153, 689, 690, 691, 461, 462, 463, 76, 77, 1082, 1607, 1608, 1609, 1610, 1611, 1612, 1613, 1614, 1615, 1700, 1701, 1702, 1703, 1647, 1648, 1649, 1650, 1651, 1652, 1653, 1654, 1655, 1656, 1657, 1658, 1659, 1660, 1661, 1662] rfl (by decide +kernel)
set_option maxRecDepth 20000 in
theorem gL_law_X11_matched : GoodIn wsL_law (wsV RL 137 RX11 yX11_matched wsX11_matched) := goodIn_app (goodIn_of _ (by decide +kernel)) ggL_law_X11_matched
set_option maxRecDepth 20000 in
theorem ggL_law_X12_matched : GoodIn wsL_law wsX12_matched := goodIn_r _ [1356, 147, 163, 705, 706, 707, 5, 708, 189, 190, 191, 1357, 1358, 1359, 1360, 539, 540, 541, 1361, 1362, 1363, 1364, 1365, 1366, 1367, 1368, 1616, 1617, 1618, 1619, 1620, 1621, 1622, 1623, 1624, 1625, 1626, 1627, 1628, 1629, 1630, 1631, 1632, 1633, 1634, 1635, 1636, 1637, 1638, 1639, 1640, 1641, 1642, 1643, 1644, 1645, 1646] rfl (by decide +kernel)
set_option maxRecDepth 20000 in
theorem gL_law_X12_matched : GoodIn wsL_law (wsV RL 140 RX12 yX12_matched wsX12_matched) := goodIn_app (goodIn_of _ (by decide +kernel)) ggL_law_X12_matched
set_option maxRecDepth 20000 in
theorem ggL_law_X11_bore : GoodIn wsL_law wsX11_bore := goodIn_r _ [1372, 15, 1373, 1374, 172, 173, 2, 174, 235, 76, 77, 1607, 1608, 1609, 1610, 1611, 1612, 1613, 1614, 1615, 1647, 1648, 1649, 1650, 1651, 1652, 1653, 1654, 1655, 1656, 1657, 1658, 1659, 1660, 1661, 1662] rfl (by decide +kernel)
set_option maxRecDepth 20000 in
theorem gL_law_X11_bore : GoodIn wsL_law (wsV RL 141 RX11 yX11_bore wsX11_bore) := goodIn_app (goodIn_of _ (by decide +kernel)) ggL_law_X11_bore
set_option maxRecDepth 20000 in
theorem ggL_law_X12_bore : GoodIn wsL_law wsX12_bore := goodIn_r _ [1378, 147, 189, 190, 5, 191, 1616, 1617, 1618, 1619, 1620, 1621, 1622, 1623, 1624, 1625, 1626, 1627, 1628, 1629, 1630, 1631, 1632, 1633, 1634, 1635, 1636, 1637, 1638, 1639, 1640, 1641, 1642, 1643, 1644, 1645, 1646] rfl (by decide +kernel)
set_option maxRecDepth 20000 in
theorem gL_law_X12_bore : GoodIn wsL_law (wsV RL 145 RX12 yX12_bore wsX12_bore) := goodIn_app (goodIn_of _ (by decide +kernel)) ggL_law_X12_bore
set_option maxRecDepth 20000 in
theorem ggL_law_X11_bears : GoodIn wsL_law wsX11_bears := goodIn_r _ [1382, 15, 1383, 1384, 1385, 14, 1386, 956, 371, 372, 373, 1387, 1388, 1389, 1390, 65, 64, 179, 2, 180, 1391, 1392, 1393, 1394, 1395, 1396, 1397, 1398, 1399, 1607, 1608, 1609, 1610, 1611, 1612, 1613, 1614, 1615, 1647, 1648, 1649, 1650, 1651, 1652, 1653, 1654, 1655, 1656, 1657, 1658, 1659, 1660, 1661, 1662] rfl (by decide +kernel)
set_option maxRecDepth 20000 in
theorem gL_law_X11_bears : GoodIn wsL_law (wsV RL 146 RX11 yX11_bears wsX11_bears) := goodIn_app (goodIn_of _ (by decide +kernel)) ggL_law_X11_bears
set_option maxRecDepth 20000 in
theorem ggL_law_X12_bears : GoodIn wsL_law wsX12_bears := goodIn_r _ [1403, 189, 190, 5, 191, 1404, 1405, 1406, 1407, 1408, 1409, 1410, 1411, 147, 1616, 1617, 1618, 1619, 1620, 1621, 1622, 1623, 1624, 1625, 1626, 1627, 1628, 1629, 1630, 1631, 1632, 1633, 1634, 1635, 1636, 1637, 1638, 1639, 1640, 1641, 1642, 1643, 1644, 1645, 1646] rfl (by decide +kernel)
set_option maxRecDepth 20000 in
theorem gL_law_X12_bears : GoodIn wsL_law (wsV RL 149 RX12 yX12_bears wsX12_bears) := goodIn_app (goodIn_of _ (by decide +kernel)) ggL_law_X12_bears
set_option maxRecDepth 20000 in
theorem ggL_law_X11_next : GoodIn wsL_law wsX11_next := goodIn_r _ [1415, 15, 1416, 1417, 372, 1418, 172, 173, 2, 174, 1383, 1384, 1385, 14, 1386, 956, 371, 373, 1387, 1388, 1389, 1390, 65, 64, 179, 180, 1419, 1607, 1608, 1609, 1610, 1611, 1612, 1613, 1614, 1615, 1647, 1648, 1649, 1650, 1651, 1652, 1653, 1654, 1655, 1656, 1657, 1658, 1659, 1660, 1661, 1662] rfl (by decide +kernel)
set_option maxRecDepth 20000 in
theorem gL_law_X11_next : GoodIn wsL_law (wsV RL 150 RX11 yX11_next wsX11_next) := goodIn_app (goodIn_of _ (by decide +kernel)) ggL_law_X11_next
set_option maxRecDepth 20000 in
theorem ggL_law_X12_next : GoodIn wsL_law wsX12_next := goodIn_r _ [1423, 1424, 189, 190, 5, 191, 1404, 1405, 1406, 1407, 1408, 1409, 1410, 1411, 147, 1616, 1617, 1618, 1619, 1620, 1621, 1622, 1623, 1624, 1625, 1626, 1627, 1628, 1629, 1630, 1631, 1632, 1633, 1634, 1635, 1636, 1637, 1638, 1639, 1640, 1641, 1642, 1643, 1644, 1645, 1646] rfl (by decide +kernel)
set_option maxRecDepth 20000 in
theorem gL_law_X12_next : GoodIn wsL_law (wsV RL 153 RX12 yX12_next wsX12_next) := goodIn_app (goodIn_of _ (by decide +kernel)) ggL_law_X12_next
set_option maxRecDepth 20000 in
theorem ggL_law_X11_worth : GoodIn wsL_law wsX11_worth := goodIn_r _ [1428, 15, 1429, 172, 173, 2, 174, 235, 76, 77, 1607, 1608, 1609, 1610, 1611, 1612, 1613, 1614, 1615, 1647, 1648, 1649, 1650, 1651, 1652, 1653, 1654, 1655, 1656, 1657, 1658, 1659, 1660, 1661, 1662] rfl (by decide +kernel)
set_option maxRecDepth 20000 in
theorem gL_law_X11_worth : GoodIn wsL_law (wsV RL 154 RX11 yX11_worth wsX11_worth) := goodIn_app (goodIn_of _ (by decide +kernel)) ggL_law_X11_worth
set_option maxRecDepth 20000 in
theorem ggL_law_X12_worth : GoodIn wsL_law wsX12_worth := goodIn_r _ [1433, 147, 189, 190, 5, 191, 1616, 1617, 1618, 1619, 1620, 1621, 1622, 1623, 1624, 1625, 1626, 1627, 1628, 1629, 1630, 1631, 1632, 1633, 1634, 1635, 1636, 1637, 1638, 1639, 1640, 1641, 1642, 1643, 1644, 1645, 1646] rfl (by decide +kernel)
set_option maxRecDepth 20000 in
theorem gL_law_X12_worth : GoodIn wsL_law (wsV RL 157 RX12 yX12_worth wsX12_worth) := goodIn_app (goodIn_of _ (by decide +kernel)) ggL_law_X12_worth
set_option maxRecDepth 20000 in
theorem ggL_law_X11_share : GoodIn wsL_law wsX11_share := goodIn_r _ [1437, 15, 1429, 172, 173, 2, 174, 1438, 971, 972, 973, 974, 975, 976, 1082, 179, 180, 1439, 1440, 1441, 1442, 1443, 1444, 1416, 1417, 372, 1418, 1607, 1608, 1609, 1610, 1611, 1612, 1613, 1614, 1615, 1647, 1648, 1649, 1650, 1651, 1652, 1653, 1654, 1655, 1656, 1657, 1658, 1659, 1660, 1661, 1662] rfl (by decide +kernel)
set_option maxRecDepth 20000 in
theorem gL_law_X11_share : GoodIn wsL_law (wsV RL 158 RX11 yX11_share wsX11_share) := goodIn_app (goodIn_of _ (by decide +kernel)) ggL_law_X11_share
set_option maxRecDepth 20000 in
theorem ggL_law_X12_share : GoodIn wsL_law wsX12_share := goodIn_r _ [1448, 147, 189, 190, 5, 191, 539, 540, 541, 998, 999, 1000, 1449, 1450, 1451, 1452, 1453, 1454, 1616, 1617, 1618, 1619, 1620, 1621, 1622, 1623, 1624, 1625, 1626, 1627, 1628, 1629, 1630, 1631, 1632, 1633, 1634, 1635, 1636, 1637, 1638, 1639, 1640, 1641, 1642, 1643, 1644, 1645, 1646] rfl (by decide +kernel)
set_option maxRecDepth 20000 in
theorem gL_law_X12_share : GoodIn wsL_law (wsV RL 162 RX12 yX12_share wsX12_share) := goodIn_app (goodIn_of _ (by decide +kernel)) ggL_law_X12_share
set_option maxRecDepth 20000 in
theorem ggL_law_X11_stays : GoodIn wsL_law wsX11_stays := goodIn_r _ [1458, 1459, 1460, 1461, 172, 173, 2, 174, 1442, 1443, 1444, 1416, 1417, 372, 1418] rfl (by decide +kernel)
set_option maxRecDepth 20000 in
theorem gL_law_X11_stays : GoodIn wsL_law (wsV RL 163 RX11 yX11_stays wsX11_stays) := goodIn_app (goodIn_of _ (by decide +kernel)) ggL_law_X11_stays
set_option maxRecDepth 20000 in
theorem ggL_law_X12_stays : GoodIn wsL_law wsX12_stays := goodIn_r _ [1465, 1466, 887, 189, 190, 5, 191, 1467, 1468, 1469, 1470, 1471, 1452, 1453, 1454] rfl (by decide +kernel)
set_option maxRecDepth 20000 in
theorem gL_law_X12_stays : GoodIn wsL_law (wsV RL 167 RX12 yX12_stays wsX12_stays) := goodIn_app (goodIn_of _ (by decide +kernel)) ggL_law_X12_stays
set_option maxRecDepth 20000 in
theorem ggL_law_X11_behind : GoodIn wsL_law wsX11_behind := goodIn_r _ [1475, 15, 1476, 229, 230, 2, 231, 172, 173, 174, 1082, 179, 180, 235, 76, 77, 1607, 1608, 1609, 1610, 1611, 1612, 1613, 1614, 1615, 1647, 1648, 1649, 1650, 1651, 1652, 1653, 1654, 1655, 1656, 1657, 1658, 1659, 1660, 1661, 1662] rfl (by decide +kernel)
set_option maxRecDepth 20000 in
theorem gL_law_X11_behind : GoodIn wsL_law (wsV RL 168 RX11 yX11_behind wsX11_behind) := goodIn_app (goodIn_of _ (by decide +kernel)) ggL_law_X11_behind
set_option maxRecDepth 20000 in
theorem ggL_law_X12_behind : GoodIn wsL_law wsX12_behind := goodIn_r _ [1480, 147, 240, 241, 5, 242, 189, 190, 191, 539, 540, 541, 1616, 1617, 1618, 1619, 1620, 1621, 1622, 1623, 1624, 1625, 1626, 1627, 1628, 1629, 1630, 1631, 1632, 1633, 1634, 1635, 1636, 1637, 1638, 1639, 1640, 1641, 1642, 1643, 1644, 1645, 1646] rfl (by decide +kernel)
set_option maxRecDepth 20000 in
theorem gL_law_X12_behind : GoodIn wsL_law (wsV RL 171 RX12 yX12_behind wsX12_behind) := goodIn_app (goodIn_of _ (by decide +kernel)) ggL_law_X12_behind
set_option maxRecDepth 20000 in
theorem ggL_law_X11_lessons : GoodIn wsL_law wsX11_lessons := goodIn_r _ [1484, 15, 1476, 1485, 1486, 2, 1487, 1488, 1489, 1490, 1082, 179, 180, 172, 173, 174, 1491, 1492, 1493, 1494, 1607, 1608, 1609, 1610, 1611, 1612, 1613, 1614, 1615, 1647, 1648, 1649, 1650, 1651, 1652, 1653, 1654, 1655, 1656, 1657, 1658, 1659, 1660, 1661, 1662] rfl (by decide +kernel)
set_option maxRecDepth 20000 in
theorem gL_law_X11_lessons : GoodIn wsL_law (wsV RL 172 RX11 yX11_lessons wsX11_lessons) := goodIn_app (goodIn_of _ (by decide +kernel)) ggL_law_X11_lessons
set_option maxRecDepth 20000 in
theorem ggL_law_X12_lessons : GoodIn wsL_law wsX12_lessons := goodIn_r _ [1498, 164, 189, 190, 5, 191, 1499, 1500, 1501, 1502, 1503, 1504, 1505, 1506, 147, 539, 540, 541, 1616, 1617, 1618, 1619, 1620, 1621, 1622, 1623, 1624, 1625, 1626, 1627, 1628, 1629, 1630, 1631, 1632, 1633, 1634, 1635, 1636, 1637, 1638, 1639, 1640, 1641, 1642, 1643, 1644, 1645, 1646] rfl (by decide +kernel)
set_option maxRecDepth 20000 in
theorem gL_law_X12_lessons : GoodIn wsL_law (wsV RL 175 RX12 yX12_lessons wsX12_lessons) := goodIn_app (goodIn_of _ (by decide +kernel)) ggL_law_X12_lessons
set_option maxRecDepth 20000 in
theorem ggL_law_X11_grown : GoodIn wsL_law wsX11_grown := goodIn_r _ [1510, 15, 1511, 1512, 1081, 674, 675, 14, 676, 50, 179, 2, 180, 172, 173, 174, 235, 76, 77, 1607, 1608, 1609, 1610, 1611, 1612, 1613, 1614, 1615, 1647, 1648, 1649, 1650, 1651, 1652, 1653, 1654, 1655, 1656, 1657, 1658, 1659, 1660, 1661, 1662] rfl (by decide +kernel)
set_option maxRecDepth 20000 in
theorem gL_law_X11_grown : GoodIn wsL_law (wsV RL 176 RX11 yX11_grown wsX11_grown) := goodIn_app (goodIn_of _ (by decide +kernel)) ggL_law_X11_grown
set_option maxRecDepth 20000 in
theorem ggL_law_X12_grown : GoodIn wsL_law wsX12_grown := goodIn_r _ [1516, 147, 709, 710, 711, 5, 712, 189, 190, 191, 1616, 1617, 1618, 1619, 1620, 1621, 1622, 1623, 1624, 1625, 1626, 1627, 1628, 1629, 1630, 1631, 1632, 1633, 1634, 1635, 1636, 1637, 1638, 1639, 1640, 1641, 1642, 1643, 1644, 1645, 1646] rfl (by decide +kernel)
set_option maxRecDepth 20000 in
theorem gL_law_X12_grown : GoodIn wsL_law (wsV RL 179 RX12 yX12_grown wsX12_grown) := goodIn_app (goodIn_of _ (by decide +kernel)) ggL_law_X12_grown
set_option maxRecDepth 20000 in
theorem ggL_law_X11_whose : GoodIn wsL_law wsX11_whose := goodIn_r _ [1520, 15, 277, 1006, 747, 748, 14, 749, 61, 60, 1521, 1522, 1523, 2, 1524, 1511, 1512, 24, 1082, 179, 180, 1083, 959, 960, 23, 961, 99, 96, 962, 963, 964, 965, 966, 967, 968, 969, 50, 956, 371, 372, 373, 734, 678, 679, 680, 970, 971, 972, 973, 974, 975, 976, 750, 751, 752, 291, 753, 754, 755, 756, 757, 471, 758, 759, 760, 761, 763, 764, 765, 766, 767, 768, 769, 770, 771, 76, 77, 762, 777, 778, 779, 780, 98, 781, 782, 783, 784, 785, 786, 97, 787, 788, 789, 790, 791, 792, 793, 794, 795, 452, 453, 796, 797, 798, 799, 800, 801, 802, 803, 804, 805, 806, 807, 808, 1607, 1608, 1609, 1610, 1611, 1612, 1613, 1614, 1615, 1647, 1648, 1649, 1650, 1651, 1652, 1653, 1654, 1655, 1656, 1657, 1658, 1659, 1660, 1661, 1662, 1679, 1680, 1681, 1682, 1707, 1708, 1709, 1710] rfl (by decide +kernel)
set_option maxRecDepth 20000 in
theorem gL_law_X11_whose : GoodIn wsL_law (wsV RL 180 RX11 yX11_whose wsX11_whose) := goodIn_app (goodIn_of _ (by decide +kernel)) ggL_law_X11_whose
set_option maxRecDepth 20000 in
theorem ggL_law_X12_whose : GoodIn wsL_law wsX12_whose := goodIn_r _ [1528, 147, 990, 991, 992, 5, 993, 154, 862, 863, 864, 865, 200, 201, 202, 203, 994, 995, 996, 997, 713, 714, 715, 716, 998, 999, 1000, 866, 867, 868, 869, 149, 870, 871, 872, 873, 155, 157, 874, 875, 876, 877, 878, 879, 880, 881, 882, 883, 884, 885, 886, 887, 888, 889, 890, 891, 892, 893, 894, 895, 896, 897, 1616, 1617, 1618, 1619, 1620, 1621, 1622, 1623, 1624, 1625, 1626, 1627, 1628, 1629, 1630, 1631, 1632, 1633, 1634, 1635, 1636, 1637, 1638, 1639, 1640, 1641, 1642, 1643, 1644, 1645, 1646] rfl (by decide +kernel)
set_option maxRecDepth 20000 in
theorem gL_law_X12_whose : GoodIn wsL_law (wsV RL 183 RX12 yX12_whose wsX12_whose) := goodIn_app (goodIn_of _ (by decide +kernel)) ggL_law_X12_whose
set_option maxRecDepth 20000 in
theorem ggL_law_X11_clocks : GoodIn wsL_law wsX11_clocks := goodIn_r _ [1532, 15, 1095, 670, 671, 14, 672, 50, 179, 2, 180, 1533, 953, 954, 955, 956, 371, 372, 373, 833, 678, 679, 680, 1607, 1608, 1609, 1610, 1611, 1612, 1613, 1614, 1615, 1647, 1648, 1649, 1650, 1651, 1652, 1653, 1654, 1655, 1656, 1657, 1658, 1659, 1660, 1661, 1662] rfl (by decide +kernel)
set_option maxRecDepth 20000 in
theorem gL_law_X11_clocks : GoodIn wsL_law (wsV RL 184 RX11 yX11_clocks wsX11_clocks) := goodIn_app (goodIn_of _ (by decide +kernel)) ggL_law_X11_clocks
set_option maxRecDepth 20000 in
theorem ggL_law_X12_clocks : GoodIn wsL_law wsX12_clocks := goodIn_r _ [1537, 147, 705, 706, 707, 5, 708, 189, 190, 191, 200, 201, 202, 203, 1616, 1617, 1618, 1619, 1620, 1621, 1622, 1623, 1624, 1625, 1626, 1627, 1628, 1629, 1630, 1631, 1632, 1633, 1634, 1635, 1636, 1637, 1638, 1639, 1640, 1641, 1642, 1643, 1644, 1645, 1646] rfl (by decide +kernel)
set_option maxRecDepth 20000 in
theorem gL_law_X12_clocks : GoodIn wsL_law (wsV RL 187 RX12 yX12_clocks wsX12_clocks) := goodIn_app (goodIn_of _ (by decide +kernel)) ggL_law_X12_clocks
set_option maxRecDepth 20000 in
theorem ggL_law_X11_saddest : GoodIn wsL_law wsX11_saddest := goodIn_r _ [1541, 15, 1533, 953, 954, 14, 955, 50, 956, 371, 372, 373, 179, 2, 180, 1542, 1543, 1544, 1545, 734, 678, 679, 680, 1607, 1608, 1609, 1610, 1611, 1612, 1613, 1614, 1615, 1647, 1648, 1649, 1650, 1651, 1652, 1653, 1654, 1655, 1656, 1657, 1658, 1659, 1660, 1661, 1662] rfl (by decide +kernel)
set_option maxRecDepth 20000 in
theorem gL_law_X11_saddest : GoodIn wsL_law (wsV RL 188 RX11 yX11_saddest wsX11_saddest) := goodIn_app (goodIn_of _ (by decide +kernel)) ggL_law_X11_saddest
set_option maxRecDepth 20000 in
theorem ggL_law_X12_saddest : GoodIn wsL_law wsX12_saddest := goodIn_r _ [1549, 147, 200, 201, 202, 5, 203, 1616, 1617, 1618, 1619, 1620, 1621, 1622, 1623, 1624, 1625, 1626, 1627, 1628, 1629, 1630, 1631, 1632, 1633, 1634, 1635, 1636, 1637, 1638, 1639, 1640, 1641, 1642, 1643, 1644, 1645, 1646] rfl (by decide +kernel)
set_option maxRecDepth 20000 in
theorem gL_law_X12_saddest : GoodIn wsL_law (wsV RL 191 RX12 yX12_saddest wsX12_saddest) := goodIn_app (goodIn_of _ (by decide +kernel)) ggL_law_X12_saddest
set_option maxRecDepth 20000 in
theorem ggL_law_X11_tiredest : GoodIn wsL_law wsX11_tiredest := goodIn_r _ [1553, 15, 1554, 967, 968, 14, 969, 50, 956, 371, 372, 373, 179, 2, 180, 1542, 1543, 1544, 1545, 734, 678, 679, 680, 1607, 1608, 1609, 1610, 1611, 1612, 1613, 1614, 1615, 1647, 1648, 1649, 1650, 1651, 1652, 1653, 1654, 1655, 1656, 1657, 1658, 1659, 1660, 1661, 1662] rfl (by decide +kernel)
set_option maxRecDepth 20000 in
theorem gL_law_X11_tiredest : GoodIn wsL_law (wsV RL 192 RX11 yX11_tiredest wsX11_tiredest) := goodIn_app (goodIn_of _ (by decide +kernel)) ggL_law_X11_tiredest
set_option maxRecDepth 20000 in
theorem ggL_law_X12_tiredest : GoodIn wsL_law wsX12_tiredest := goodIn_r _ [1558, 147, 713, 714, 715, 5, 716, 1616, 1617, 1618, 1619, 1620, 1621, 1622, 1623, 1624, 1625, 1626, 1627, 1628, 1629, 1630, 1631, 1632, 1633, 1634, 1635, 1636, 1637, 1638, 1639, 1640, 1641, 1642, 1643, 1644, 1645, 1646] rfl (by decide +kernel)
set_option maxRecDepth 20000 in
theorem gL_law_X12_tiredest : GoodIn wsL_law (wsV RL 195 RX12 yX12_tiredest wsX12_tiredest) := goodIn_app (goodIn_of _ (by decide +kernel)) ggL_law_X12_tiredest
set_option maxRecDepth 20000 in
theorem ggL_law_X11_sitting : GoodIn wsL_law wsX11_sitting := goodIn_r _ [1562, 15, 1554, 967, 968, 14, 969, 50, 956, 371, 372, 373, 179, 2, 180, 1104, 730, 731, 732, 733, 670, 671, 672, 734, 678, 679, 680, 833, 1607, 1608, 1609, 1610, 1611, 1612, 1613, 1614, 1615, 1647, 1648, 1649, 1650, 1651, 1652, 1653, 1654, 1655, 1656, 1657, 1658, 1659, 1660, 1661, 1662] rfl (by decide +kernel)
set_option maxRecDepth 20000 in
theorem gL_law_X11_sitting : GoodIn wsL_law (wsV RL 196 RX11 yX11_sitting wsX11_sitting) := goodIn_app (goodIn_of _ (by decide +kernel)) ggL_law_X11_sitting
set_option maxRecDepth 20000 in
theorem ggL_law_X12_sitting : GoodIn wsL_law wsX12_sitting := goodIn_r _ [1566, 147, 842, 843, 844, 5, 845, 705, 706, 707, 708, 189, 190, 191, 713, 714, 715, 716, 1616, 1617, 1618, 1619, 1620, 1621, 1622, 1623, 1624, 1625, 1626, 1627, 1628, 1629, 1630, 1631, 1632, 1633, 1634, 1635, 1636, 1637, 1638, 1639, 1640, 1641, 1642, 1643, 1644, 1645, 1646] rfl (by decide +kernel)
set_option maxRecDepth 20000 in
theorem gL_law_X12_sitting : GoodIn wsL_law (wsV RL 199 RX12 yX12_sitting wsX12_sitting) := goodIn_app (goodIn_of _ (by decide +kernel)) ggL_law_X12_sitting
set_option maxRecDepth 20000 in
theorem ggL_law_X11_ledger : GoodIn wsL_law wsX11_ledger := goodIn_r _ [1570, 15, 1095, 670, 671, 14, 672, 50, 179, 2, 180, 833, 678, 679, 680, 1607, 1608, 1609, 1610, 1611, 1612, 1613, 1614, 1615, 1647, 1648, 1649, 1650, 1651, 1652, 1653, 1654, 1655, 1656, 1657, 1658, 1659, 1660, 1661, 1662] rfl (by decide +kernel)
set_option maxRecDepth 20000 in
theorem gL_law_X11_ledger : GoodIn wsL_law (wsV RL 200 RX11 yX11_ledger wsX11_ledger) := goodIn_app (goodIn_of _ (by decide +kernel)) ggL_law_X11_ledger
set_option maxRecDepth 20000 in
theorem ggL_law_X12_ledger : GoodIn wsL_law wsX12_ledger := goodIn_r _ [1574, 147, 705, 706, 707, 5, 708, 189, 190, 191, 1138, 1139, 1140, 1141, 1616, 1617, 1618, 1619, 1620, 1621, 1622, 1623, 1624, 1625, 1626, 1627, 1628, 1629, 1630, 1631, 1632, 1633, 1634, 1635, 1636, 1637, 1638, 1639, 1640, 1641, 1642, 1643, 1644, 1645, 1646] rfl (by decide +kernel)
set_option maxRecDepth 20000 in
theorem gL_law_X12_ledger : GoodIn wsL_law (wsV RL 203 RX12 yX12_ledger wsX12_ledger) := goodIn_app (goodIn_of _ (by decide +kernel)) ggL_law_X12_ledger
set_option maxRecDepth 20000 in
theorem ggL_law_X11_image : GoodIn wsL_law wsX11_image := goodIn_r _ [1578, 16, 15, 1579, 1580, 1581, 14, 1582, 50, 54, 55, 56, 57, 58, 60, 61, 62, 63, 64, 65, 66, 67, 68, 69, 1151, 2, 1152, 1153, 689, 690, 691, 461, 462, 463, 1583, 1584, 1585, 53, 1586, 73, 74, 75, 937, 769, 770, 771, 179, 180, 1607, 1608, 1609, 1610, 1611, 1612, 1613, 1614, 1615, 1647, 1648, 1649, 1650, 1651, 1652, 1653, 1654, 1655, 1656, 1657, 1658, 1659, 1660, 1661, 1662, 1704, 1705, 1706] rfl (by decide +kernel)
set_option maxRecDepth 20000 in
theorem gL_law_X11_image : GoodIn wsL_law (wsV RL 204 RX11 yX11_image wsX11_image) := goodIn_app (goodIn_of _ (by decide +kernel)) ggL_law_X11_image
set_option maxRecDepth 20000 in
theorem ggL_law_X12_image : GoodIn wsL_law wsX12_image := goodIn_r _ [1590, 147, 148, 165, 166, 5, 167, 1616, 1617, 1618, 1619, 1620, 1621, 1622, 1623, 1624, 1625, 1626, 1627, 1628, 1629, 1630, 1631, 1632, 1633, 1634, 1635, 1636, 1637, 1638, 1639, 1640, 1641, 1642, 1643, 1644, 1645, 1646] rfl (by decide +kernel)
set_option maxRecDepth 20000 in
theorem gL_law_X12_image : GoodIn wsL_law (wsV RL 207 RX12 yX12_image wsX12_image) := goodIn_app (goodIn_of _ (by decide +kernel)) ggL_law_X12_image
set_option maxRecDepth 20000 in
theorem ggL_law_X11_back : GoodIn wsL_law wsX11_back := goodIn_r _ [1594, 15, 16, 1579, 1580, 1581, 14, 1582, 50, 54, 55, 56, 57, 58, 60, 61, 62, 63, 64, 65, 66, 67, 68, 69, 1151, 2, 1152, 1153, 689, 690, 691, 461, 462, 463, 1583, 1584, 1585, 53, 1586, 73, 74, 75, 937, 769, 770, 771, 179, 180, 1607, 1608, 1609, 1610, 1611, 1612, 1613, 1614, 1615, 1647, 1648, 1649, 1650, 1651, 1652, 1653, 1654, 1655, 1656, 1657, 1658, 1659, 1660, 1661, 1662, 1704, 1705, 1706] rfl (by decide +kernel)
set_option maxRecDepth 20000 in
theorem gL_law_X11_back : GoodIn wsL_law (wsV RL 208 RX11 yX11_back wsX11_back) := goodIn_app (goodIn_of _ (by decide +kernel)) ggL_law_X11_back
set_option maxRecDepth 20000 in
theorem ggL_law_X12_back : GoodIn wsL_law wsX12_back := goodIn_r _ [1598, 148, 147, 165, 166, 5, 167, 1616, 1617, 1618, 1619, 1620, 1621, 1622, 1623, 1624, 1625, 1626, 1627, 1628, 1629, 1630, 1631, 1632, 1633, 1634, 1635, 1636, 1637, 1638, 1639, 1640, 1641, 1642, 1643, 1644, 1645, 1646] rfl (by decide +kernel)
set_option maxRecDepth 20000 in
theorem gL_law_X12_back : GoodIn wsL_law (wsV RL 211 RX12 yX12_back wsX12_back) := goodIn_app (goodIn_of _ (by decide +kernel)) ggL_law_X12_back
set_option maxRecDepth 20000 in
theorem ggL_law_X11_about : GoodIn wsL_law wsX11_about := goodIn_r _ [1602, 15, 277, 654, 663, 1063, 1373, 1511, 20, 247, 1533, 953, 954, 14, 955, 50, 956, 371, 372, 373, 179, 2, 180, 1554, 967, 968, 969, 1607, 1608, 1609, 1610, 1611, 1612, 1613, 1614, 1615, 1647, 1648, 1649, 1650, 1651, 1652, 1653, 1654, 1655, 1656, 1657, 1658, 1659, 1660, 1661, 1662, 1704, 1705, 1706, 1663, 1664, 1665, 1666, 1667, 1668, 1669, 1670, 1671, 1672, 1673, 1674, 1675, 1676, 1677, 1678] rfl (by decide +kernel)
set_option maxRecDepth 20000 in
theorem gL_law_X11_about : GoodIn wsL_law (wsV RL 212 RX11 yX11_about wsX11_about) := goodIn_app (goodIn_of _ (by decide +kernel)) ggL_law_X11_about
set_option maxRecDepth 20000 in
theorem ggL_law_X12_about : GoodIn wsL_law wsX12_about := goodIn_r _ [1606, 147, 260, 189, 190, 5, 191, 1616, 1617, 1618, 1619, 1620, 1621, 1622, 1623, 1624, 1625, 1626, 1627, 1628, 1629, 1630, 1631, 1632, 1633, 1634, 1635, 1636, 1637, 1638, 1639, 1640, 1641, 1642, 1643, 1644, 1645, 1646] rfl (by decide +kernel)
set_option maxRecDepth 20000 in
theorem gL_law_X12_about : GoodIn wsL_law (wsV RL 215 RX12 yX12_about wsX12_about) := goodIn_app (goodIn_of _ (by decide +kernel)) ggL_law_X12_about
