/-! Printed by wip/whole/gen_facts.py: the words of the methods stand among the tables'. -/
def mix : List (Nat × Nat × Nat × Nat × Nat) := [(578, 105, 1, 576, 577), (582, 105, 1, 581, 0), (586, 105, 1, 584, 585), (590, 105, 1, 588, 589), (594, 105, 1, 593, 1), (752, 105, 1, 750, 751), (756, 105, 1, 754, 755), (769, 105, 1, 767, 768), (786, 105, 1, 784, 785), (1511, 105, 2, 1510, 0), (790, 105, 1, 788, 789), (822, 105, 1, 820, 821), (839, 105, 1, 837, 838), (860, 105, 1, 858, 859), (885, 105, 1, 883, 884), (906, 105, 1, 904, 905), (928, 105, 1, 926, 927), (936, 105, 1, 934, 935), (940, 105, 1, 939, 16), (964, 105, 1, 962, 963), (972, 105, 1, 970, 971), (985, 105, 1, 983, 984), (998, 105, 1, 996, 997), (1003, 105, 1, 1001, 1002), (1007, 105, 1, 1005, 1006), (1011, 105, 1, 1009, 1010), (1016, 105, 1, 1014, 1015), (1029, 105, 1, 1027, 1028), (1033, 105, 1, 1032, 22), (1037, 105, 1, 1036, 23), (1042, 105, 1, 1041, 24), (1046, 105, 1, 1045, 25), (1050, 105, 1, 1048, 1049), (1270, 105, 1, 1268, 1269), (1331, 105, 1, 1330, 30), (1335, 105, 1, 1333, 1334), (1339, 105, 1, 1337, 1338), (1392, 105, 1, 1390, 1391), (1417, 105, 1, 1415, 1416), (1421, 105, 1, 1419, 1420), (1515, 122, 1, 1513, 1514), (1811, 122, 1, 1810, 57), (1519, 122, 1, 1517, 1518), (1524, 122, 1, 1522, 37), (1528, 122, 1, 1526, 1527), (1723, 122, 1, 1722, 40), (1767, 122, 2, 1766, 0), (1756, 122, 2, 1755, 0), (1895, 122, 2, 1894, 0), (1846, 122, 2, 1845, 0), (1860, 122, 2, 1859, 0), (1992, 122, 1, 1991, 83), (1563, 122, 1, 1562, 38), (1567, 122, 1, 1566, 39), (1731, 122, 1, 1730, 42), (1734, 122, 2, 1733, 0), (1737, 122, 2, 1736, 0), (1727, 122, 1, 1726, 41), (1760, 122, 1, 1759, 47), (1745, 122, 1, 1744, 44), (1795, 122, 1, 1794, 55), (1791, 122, 1, 1790, 54), (1783, 122, 1, 1782, 52), (1764, 122, 1, 1763, 48), (1775, 122, 1, 1774, 50), (1787, 122, 1, 1786, 53), (2073, 122, 1, 2072, 94), (1753, 122, 1, 1752, 46), (1741, 122, 1, 1740, 43), (1749, 122, 1, 1748, 45), (1771, 122, 1, 1770, 49), (1779, 122, 1, 1778, 51), (1719, 122, 1, 1717, 1718), (1799, 122, 1, 1797, 1798), (1807, 122, 1, 1806, 56), (1831, 122, 1, 1830, 62), (1823, 122, 1, 1822, 60), (1857, 122, 2, 1856, 0), (1843, 122, 1, 1842, 65), (1839, 122, 1, 1838, 64), (1827, 122, 1, 1826, 61), (1835, 122, 1, 1834, 63), (1854, 122, 1, 1853, 67), (1850, 122, 1, 1849, 66), (1819, 122, 1, 1818, 59), (1815, 122, 1, 1814, 58), (1872, 122, 1, 1871, 68), (1803, 122, 1, 1801, 1802), (1864, 122, 1, 1862, 1863), (1868, 122, 1, 1866, 1867), (1911, 122, 1, 1910, 74), (1888, 122, 1, 1887, 70), (1892, 122, 1, 1891, 71), (1903, 122, 1, 1902, 72), (1907, 122, 1, 1906, 73), (1919, 122, 1, 1918, 75), (1931, 122, 1, 1930, 77), (1927, 122, 1, 1926, 76), (1876, 122, 1, 1874, 1875), (1884, 122, 1, 1882, 1883), (1899, 122, 1, 1897, 1898), (1915, 122, 1, 1913, 1914), (1923, 122, 1, 1921, 1922), (1880, 122, 1, 1879, 69), (1935, 122, 1, 1933, 1934), (1972, 122, 1, 1971, 81), (1976, 122, 1, 1975, 82), (1948, 122, 1, 1947, 79), (1943, 122, 1, 1942, 78), (1939, 122, 1, 1937, 1938), (1952, 122, 1, 1950, 1951), (1956, 122, 1, 1954, 1955), (1960, 122, 1, 1958, 1959), (1968, 122, 1, 1967, 80), (1964, 122, 1, 1962, 1963), (1980, 122, 1, 1978, 1979), (1984, 122, 1, 1982, 1983), (1996, 122, 1, 1995, 84), (2000, 122, 1, 1999, 85), (1988, 122, 1, 1986, 1987), (2004, 122, 1, 2002, 2003), (2008, 122, 1, 2006, 2007), (2012, 122, 1, 2010, 2011), (2025, 122, 1, 2024, 87), (2020, 122, 1, 2019, 86), (2030, 122, 1, 2029, 88), (2035, 122, 1, 2034, 89), (2016, 122, 1, 2014, 2015), (2040, 122, 1, 2038, 2039), (2056, 122, 1, 2055, 92), (2052, 122, 1, 2051, 91), (2048, 122, 1, 2047, 90), (2044, 122, 1, 2042, 2043), (2061, 122, 1, 2059, 2060), (2069, 122, 1, 2068, 93), (2077, 122, 1, 2076, 95), (2065, 122, 1, 2063, 2064), (2081, 122, 1, 2079, 2080), (2093, 122, 1, 2092, 97), (2097, 122, 1, 2096, 98), (2089, 122, 1, 2088, 96), (2109, 122, 1, 2108, 101), (2105, 122, 1, 2104, 100), (2101, 122, 1, 2100, 99), (2085, 122, 1, 2083, 2084), (2121, 122, 1, 2120, 103), (2117, 122, 1, 2116, 102), (2113, 122, 1, 2111, 2112), (2125, 122, 1, 2123, 2124), (2129, 122, 1, 2127, 2128), (2133, 122, 1, 2131, 2132), (1274, 116, 1, 1272, 1273), (1307, 116, 1, 1306, 28), (1280, 116, 1, 1279, 27), (1312, 116, 1, 1310, 1311), (1316, 116, 1, 1315, 29), (1324, 116, 2, 1323, 0), (748, 113, 1, 746, 747), (811, 113, 1, 809, 810), (932, 113, 1, 930, 931), (614, 112, 2, 613, 0), (1299, 112, 1, 1297, 1298), (158, 107, 1, 156, 157), (732, 107, 1, 730, 731), (794, 107, 1, 792, 793), (760, 107, 1, 758, 759), (777, 107, 1, 775, 776), (802, 107, 1, 800, 801), (705, 107, 1, 703, 704), (846, 107, 2, 845, 0), (598, 114, 1, 596, 597), (641, 114, 1, 639, 640), (645, 114, 1, 643, 644), (669, 114, 1, 667, 668), (693, 114, 1, 691, 692), (673, 114, 1, 672, 6), (605, 114, 1, 603, 604), (609, 114, 1, 608, 2), (723, 114, 1, 721, 722), (678, 114, 1, 676, 677), (1288, 114, 1, 1286, 1287), (701, 114, 1, 699, 700), (628, 106, 1, 626, 627), (728, 106, 1, 726, 727), (1396, 110, 1, 1394, 1395), (637, 110, 1, 635, 636), (744, 110, 1, 742, 743), (1343, 110, 1, 1341, 1342), (1348, 110, 1, 1347, 31), (1352, 110, 1, 1351, 32), (1356, 110, 1, 1355, 33), (1359, 110, 2, 1358, 0), (1375, 110, 2, 1374, 0), (1368, 110, 1, 1367, 34), (1400, 110, 1, 1398, 1399), (1404, 110, 1, 1403, 35), (1410, 110, 2, 1409, 0), (1413, 110, 2, 1412, 0), (633, 108, 1, 631, 632), (739, 108, 1, 737, 738), (717, 108, 1, 715, 716), (889, 108, 1, 887, 888), (713, 108, 1, 711, 712), (765, 108, 1, 763, 764), (709, 108, 1, 707, 708), (1020, 108, 1, 1018, 1019), (1025, 108, 1, 1023, 1024), (773, 108, 1, 771, 772), (782, 108, 1, 780, 781), (1498, 108, 1, 1496, 1497), (881, 108, 1, 879, 880), (877, 108, 1, 875, 876), (798, 108, 1, 796, 797), (817, 108, 1, 815, 816), (826, 108, 1, 824, 825), (830, 108, 1, 828, 829), (843, 108, 1, 841, 842), (850, 108, 1, 848, 849), (855, 108, 1, 854, 10), (864, 108, 1, 862, 863), (868, 108, 1, 866, 867), (873, 108, 1, 872, 11), (894, 108, 1, 892, 893), (898, 108, 1, 897, 12), (902, 108, 1, 901, 13), (910, 108, 1, 908, 909), (914, 108, 1, 913, 14), (918, 108, 1, 917, 15), (624, 115, 1, 622, 623), (649, 115, 1, 648, 3), (665, 115, 1, 664, 5), (661, 115, 1, 660, 4), (685, 115, 1, 684, 7), (689, 115, 1, 688, 8), (697, 115, 1, 696, 9), (968, 117, 1, 966, 967), (945, 117, 1, 943, 944), (950, 117, 1, 949, 17), (956, 117, 1, 955, 18), (960, 117, 1, 959, 19), (976, 117, 1, 974, 975), (980, 117, 1, 979, 20), (989, 117, 1, 987, 988), (993, 117, 1, 992, 21), (230, 109, 2, 229, 0)]
def mokB (j : Nat) (q : Nat × Nat × Nat × Nat × Nat) : Bool := plainName (mY j).cls && lkB q.2.1 (.initialized (mY j).cls) && decide (mL j ≤ 100) && decide ((mY j).cls ≠ "java/lang/invoke/MethodHandle") && decide ((mY j).cls ≠ "java/lang/invoke/VarHandle") &&
  (bif q.2.2.1 == 1 then lkB q.2.2.2.1 (.instanceMethod (mY j)) && lkB q.2.2.2.2 (.selects (mY j).cls (mY j) (mY j)) else lkB q.2.2.2.1 (.static (mY j)))
set_option maxRecDepth 100000 in
theorem cw_0 : lw_tbl[578]? = some (.code (mY 0) (mC 0) (mL 0) (mR9 0)) := rfl
set_option maxRecDepth 100000 in
theorem cw_1 : lw_tbl[582]? = some (.code (mY 1) (mC 1) (mL 1) (mR9 1)) := rfl
set_option maxRecDepth 100000 in
theorem cw_2 : lw_tbl[586]? = some (.code (mY 2) (mC 2) (mL 2) (mR9 2)) := rfl
set_option maxRecDepth 100000 in
theorem cw_3 : lw_tbl[590]? = some (.code (mY 3) (mC 3) (mL 3) (mR9 3)) := rfl
set_option maxRecDepth 100000 in
theorem cw_4 : lw_tbl[594]? = some (.code (mY 4) (mC 4) (mL 4) (mR9 4)) := rfl
set_option maxRecDepth 100000 in
theorem cw_5 : lw_tbl[752]? = some (.code (mY 5) (mC 5) (mL 5) (mR9 5)) := rfl
set_option maxRecDepth 100000 in
theorem cw_6 : lw_tbl[756]? = some (.code (mY 6) (mC 6) (mL 6) (mR9 6)) := rfl
set_option maxRecDepth 100000 in
theorem cw_7 : lw_tbl[769]? = some (.code (mY 7) (mC 7) (mL 7) (mR9 7)) := rfl
set_option maxRecDepth 100000 in
theorem cw_8 : lw_tbl[786]? = some (.code (mY 8) (mC 8) (mL 8) (mR9 8)) := rfl
set_option maxRecDepth 100000 in
theorem cw_9 : lw_tbl[1511]? = some (.code (mY 9) (mC 9) (mL 9) (mR9 9)) := rfl
set_option maxRecDepth 100000 in
theorem cw_10 : lw_tbl[790]? = some (.code (mY 10) (mC 10) (mL 10) (mR9 10)) := rfl
set_option maxRecDepth 100000 in
theorem cw_11 : lw_tbl[822]? = some (.code (mY 11) (mC 11) (mL 11) (mR9 11)) := rfl
set_option maxRecDepth 100000 in
theorem cw_12 : lw_tbl[839]? = some (.code (mY 12) (mC 12) (mL 12) (mR9 12)) := rfl
set_option maxRecDepth 100000 in
theorem cw_13 : lw_tbl[860]? = some (.code (mY 13) (mC 13) (mL 13) (mR9 13)) := rfl
set_option maxRecDepth 100000 in
theorem cw_14 : lw_tbl[885]? = some (.code (mY 14) (mC 14) (mL 14) (mR9 14)) := rfl
set_option maxRecDepth 100000 in
theorem cw_15 : lw_tbl[906]? = some (.code (mY 15) (mC 15) (mL 15) (mR9 15)) := rfl
set_option maxRecDepth 100000 in
theorem cw_16 : lw_tbl[928]? = some (.code (mY 16) (mC 16) (mL 16) (mR9 16)) := rfl
set_option maxRecDepth 100000 in
theorem cw_17 : lw_tbl[936]? = some (.code (mY 17) (mC 17) (mL 17) (mR9 17)) := rfl
set_option maxRecDepth 100000 in
theorem cw_18 : lw_tbl[940]? = some (.code (mY 18) (mC 18) (mL 18) (mR9 18)) := rfl
set_option maxRecDepth 100000 in
theorem cw_19 : lw_tbl[964]? = some (.code (mY 19) (mC 19) (mL 19) (mR9 19)) := rfl
set_option maxRecDepth 100000 in
theorem cw_20 : lw_tbl[972]? = some (.code (mY 20) (mC 20) (mL 20) (mR9 20)) := rfl
set_option maxRecDepth 100000 in
theorem cw_21 : lw_tbl[985]? = some (.code (mY 21) (mC 21) (mL 21) (mR9 21)) := rfl
set_option maxRecDepth 100000 in
theorem cw_22 : lw_tbl[998]? = some (.code (mY 22) (mC 22) (mL 22) (mR9 22)) := rfl
set_option maxRecDepth 100000 in
theorem cw_23 : lw_tbl[1003]? = some (.code (mY 23) (mC 23) (mL 23) (mR9 23)) := rfl
set_option maxRecDepth 100000 in
theorem cw_24 : lw_tbl[1007]? = some (.code (mY 24) (mC 24) (mL 24) (mR9 24)) := rfl
set_option maxRecDepth 100000 in
theorem cw_25 : lw_tbl[1011]? = some (.code (mY 25) (mC 25) (mL 25) (mR9 25)) := rfl
set_option maxRecDepth 100000 in
theorem cw_26 : lw_tbl[1016]? = some (.code (mY 26) (mC 26) (mL 26) (mR9 26)) := rfl
set_option maxRecDepth 100000 in
theorem cw_27 : lw_tbl[1029]? = some (.code (mY 27) (mC 27) (mL 27) (mR9 27)) := rfl
set_option maxRecDepth 100000 in
theorem cw_28 : lw_tbl[1033]? = some (.code (mY 28) (mC 28) (mL 28) (mR9 28)) := rfl
set_option maxRecDepth 100000 in
theorem cw_29 : lw_tbl[1037]? = some (.code (mY 29) (mC 29) (mL 29) (mR9 29)) := rfl
set_option maxRecDepth 100000 in
theorem cw_30 : lw_tbl[1042]? = some (.code (mY 30) (mC 30) (mL 30) (mR9 30)) := rfl
set_option maxRecDepth 100000 in
theorem cw_31 : lw_tbl[1046]? = some (.code (mY 31) (mC 31) (mL 31) (mR9 31)) := rfl
set_option maxRecDepth 100000 in
theorem cw_32 : lw_tbl[1050]? = some (.code (mY 32) (mC 32) (mL 32) (mR9 32)) := rfl
set_option maxRecDepth 100000 in
theorem cw_33 : lw_tbl[1270]? = some (.code (mY 33) (mC 33) (mL 33) (mR9 33)) := rfl
set_option maxRecDepth 100000 in
theorem cw_34 : lw_tbl[1331]? = some (.code (mY 34) (mC 34) (mL 34) (mR9 34)) := rfl
set_option maxRecDepth 100000 in
theorem cw_35 : lw_tbl[1335]? = some (.code (mY 35) (mC 35) (mL 35) (mR9 35)) := rfl
set_option maxRecDepth 100000 in
theorem cw_36 : lw_tbl[1339]? = some (.code (mY 36) (mC 36) (mL 36) (mR9 36)) := rfl
set_option maxRecDepth 100000 in
theorem cw_37 : lw_tbl[1392]? = some (.code (mY 37) (mC 37) (mL 37) (mR9 37)) := rfl
set_option maxRecDepth 100000 in
theorem cw_38 : lw_tbl[1417]? = some (.code (mY 38) (mC 38) (mL 38) (mR9 38)) := rfl
set_option maxRecDepth 100000 in
theorem cw_39 : lw_tbl[1421]? = some (.code (mY 39) (mC 39) (mL 39) (mR9 39)) := rfl
set_option maxRecDepth 100000 in
theorem cw_40 : lw_tbl[1515]? = some (.code (mY 40) (mC 40) (mL 40) (mR9 40)) := rfl
set_option maxRecDepth 100000 in
theorem cw_41 : lw_tbl[1811]? = some (.code (mY 41) (mC 41) (mL 41) (mR9 41)) := rfl
set_option maxRecDepth 100000 in
theorem cw_42 : lw_tbl[1519]? = some (.code (mY 42) (mC 42) (mL 42) (mR9 42)) := rfl
set_option maxRecDepth 100000 in
theorem cw_43 : lw_tbl[1524]? = some (.code (mY 43) (mC 43) (mL 43) (mR9 43)) := rfl
set_option maxRecDepth 100000 in
theorem cw_44 : lw_tbl[1528]? = some (.code (mY 44) (mC 44) (mL 44) (mR9 44)) := rfl
set_option maxRecDepth 100000 in
theorem cw_45 : lw_tbl[1723]? = some (.code (mY 45) (mC 45) (mL 45) (mR9 45)) := rfl
set_option maxRecDepth 100000 in
theorem cw_46 : lw_tbl[1767]? = some (.code (mY 46) (mC 46) (mL 46) (mR9 46)) := rfl
set_option maxRecDepth 100000 in
theorem cw_47 : lw_tbl[1756]? = some (.code (mY 47) (mC 47) (mL 47) (mR9 47)) := rfl
set_option maxRecDepth 100000 in
theorem cw_48 : lw_tbl[1895]? = some (.code (mY 48) (mC 48) (mL 48) (mR9 48)) := rfl
set_option maxRecDepth 100000 in
theorem cw_49 : lw_tbl[1846]? = some (.code (mY 49) (mC 49) (mL 49) (mR9 49)) := rfl
set_option maxRecDepth 100000 in
theorem cw_50 : lw_tbl[1860]? = some (.code (mY 50) (mC 50) (mL 50) (mR9 50)) := rfl
set_option maxRecDepth 100000 in
theorem cw_51 : lw_tbl[1992]? = some (.code (mY 51) (mC 51) (mL 51) (mR9 51)) := rfl
set_option maxRecDepth 100000 in
theorem cw_52 : lw_tbl[1563]? = some (.code (mY 52) (mC 52) (mL 52) (mR9 52)) := rfl
set_option maxRecDepth 100000 in
theorem cw_53 : lw_tbl[1567]? = some (.code (mY 53) (mC 53) (mL 53) (mR9 53)) := rfl
set_option maxRecDepth 100000 in
theorem cw_54 : lw_tbl[1731]? = some (.code (mY 54) (mC 54) (mL 54) (mR9 54)) := rfl
set_option maxRecDepth 100000 in
theorem cw_55 : lw_tbl[1734]? = some (.code (mY 55) (mC 55) (mL 55) (mR9 55)) := rfl
set_option maxRecDepth 100000 in
theorem cw_56 : lw_tbl[1737]? = some (.code (mY 56) (mC 56) (mL 56) (mR9 56)) := rfl
set_option maxRecDepth 100000 in
theorem cw_57 : lw_tbl[1727]? = some (.code (mY 57) (mC 57) (mL 57) (mR9 57)) := rfl
set_option maxRecDepth 100000 in
theorem cw_58 : lw_tbl[1760]? = some (.code (mY 58) (mC 58) (mL 58) (mR9 58)) := rfl
set_option maxRecDepth 100000 in
theorem cw_59 : lw_tbl[1745]? = some (.code (mY 59) (mC 59) (mL 59) (mR9 59)) := rfl
set_option maxRecDepth 100000 in
theorem cw_60 : lw_tbl[1795]? = some (.code (mY 60) (mC 60) (mL 60) (mR9 60)) := rfl
set_option maxRecDepth 100000 in
theorem cw_61 : lw_tbl[1791]? = some (.code (mY 61) (mC 61) (mL 61) (mR9 61)) := rfl
set_option maxRecDepth 100000 in
theorem cw_62 : lw_tbl[1783]? = some (.code (mY 62) (mC 62) (mL 62) (mR9 62)) := rfl
set_option maxRecDepth 100000 in
theorem cw_63 : lw_tbl[1764]? = some (.code (mY 63) (mC 63) (mL 63) (mR9 63)) := rfl
set_option maxRecDepth 100000 in
theorem cw_64 : lw_tbl[1775]? = some (.code (mY 64) (mC 64) (mL 64) (mR9 64)) := rfl
set_option maxRecDepth 100000 in
theorem cw_65 : lw_tbl[1787]? = some (.code (mY 65) (mC 65) (mL 65) (mR9 65)) := rfl
set_option maxRecDepth 100000 in
theorem cw_66 : lw_tbl[2073]? = some (.code (mY 66) (mC 66) (mL 66) (mR9 66)) := rfl
set_option maxRecDepth 100000 in
theorem cw_67 : lw_tbl[1753]? = some (.code (mY 67) (mC 67) (mL 67) (mR9 67)) := rfl
set_option maxRecDepth 100000 in
theorem cw_68 : lw_tbl[1741]? = some (.code (mY 68) (mC 68) (mL 68) (mR9 68)) := rfl
set_option maxRecDepth 100000 in
theorem cw_69 : lw_tbl[1749]? = some (.code (mY 69) (mC 69) (mL 69) (mR9 69)) := rfl
set_option maxRecDepth 100000 in
theorem cw_70 : lw_tbl[1771]? = some (.code (mY 70) (mC 70) (mL 70) (mR9 70)) := rfl
set_option maxRecDepth 100000 in
theorem cw_71 : lw_tbl[1779]? = some (.code (mY 71) (mC 71) (mL 71) (mR9 71)) := rfl
set_option maxRecDepth 100000 in
theorem cw_72 : lw_tbl[1719]? = some (.code (mY 72) (mC 72) (mL 72) (mR9 72)) := rfl
set_option maxRecDepth 100000 in
theorem cw_73 : lw_tbl[1799]? = some (.code (mY 73) (mC 73) (mL 73) (mR9 73)) := rfl
set_option maxRecDepth 100000 in
theorem cw_74 : lw_tbl[1807]? = some (.code (mY 74) (mC 74) (mL 74) (mR9 74)) := rfl
set_option maxRecDepth 100000 in
theorem cw_75 : lw_tbl[1831]? = some (.code (mY 75) (mC 75) (mL 75) (mR9 75)) := rfl
set_option maxRecDepth 100000 in
theorem cw_76 : lw_tbl[1823]? = some (.code (mY 76) (mC 76) (mL 76) (mR9 76)) := rfl
set_option maxRecDepth 100000 in
theorem cw_77 : lw_tbl[1857]? = some (.code (mY 77) (mC 77) (mL 77) (mR9 77)) := rfl
set_option maxRecDepth 100000 in
theorem cw_78 : lw_tbl[1843]? = some (.code (mY 78) (mC 78) (mL 78) (mR9 78)) := rfl
set_option maxRecDepth 100000 in
theorem cw_79 : lw_tbl[1839]? = some (.code (mY 79) (mC 79) (mL 79) (mR9 79)) := rfl
set_option maxRecDepth 100000 in
theorem cw_80 : lw_tbl[1827]? = some (.code (mY 80) (mC 80) (mL 80) (mR9 80)) := rfl
set_option maxRecDepth 100000 in
theorem cw_81 : lw_tbl[1835]? = some (.code (mY 81) (mC 81) (mL 81) (mR9 81)) := rfl
set_option maxRecDepth 100000 in
theorem cw_82 : lw_tbl[1854]? = some (.code (mY 82) (mC 82) (mL 82) (mR9 82)) := rfl
set_option maxRecDepth 100000 in
theorem cw_83 : lw_tbl[1850]? = some (.code (mY 83) (mC 83) (mL 83) (mR9 83)) := rfl
set_option maxRecDepth 100000 in
theorem cw_84 : lw_tbl[1819]? = some (.code (mY 84) (mC 84) (mL 84) (mR9 84)) := rfl
set_option maxRecDepth 100000 in
theorem cw_85 : lw_tbl[1815]? = some (.code (mY 85) (mC 85) (mL 85) (mR9 85)) := rfl
set_option maxRecDepth 100000 in
theorem cw_86 : lw_tbl[1872]? = some (.code (mY 86) (mC 86) (mL 86) (mR9 86)) := rfl
set_option maxRecDepth 100000 in
theorem cw_87 : lw_tbl[1803]? = some (.code (mY 87) (mC 87) (mL 87) (mR9 87)) := rfl
set_option maxRecDepth 100000 in
theorem cw_88 : lw_tbl[1864]? = some (.code (mY 88) (mC 88) (mL 88) (mR9 88)) := rfl
set_option maxRecDepth 100000 in
theorem cw_89 : lw_tbl[1868]? = some (.code (mY 89) (mC 89) (mL 89) (mR9 89)) := rfl
set_option maxRecDepth 100000 in
theorem cw_90 : lw_tbl[1911]? = some (.code (mY 90) (mC 90) (mL 90) (mR9 90)) := rfl
set_option maxRecDepth 100000 in
theorem cw_91 : lw_tbl[1888]? = some (.code (mY 91) (mC 91) (mL 91) (mR9 91)) := rfl
set_option maxRecDepth 100000 in
theorem cw_92 : lw_tbl[1892]? = some (.code (mY 92) (mC 92) (mL 92) (mR9 92)) := rfl
set_option maxRecDepth 100000 in
theorem cw_93 : lw_tbl[1903]? = some (.code (mY 93) (mC 93) (mL 93) (mR9 93)) := rfl
set_option maxRecDepth 100000 in
theorem cw_94 : lw_tbl[1907]? = some (.code (mY 94) (mC 94) (mL 94) (mR9 94)) := rfl
set_option maxRecDepth 100000 in
theorem cw_95 : lw_tbl[1919]? = some (.code (mY 95) (mC 95) (mL 95) (mR9 95)) := rfl
set_option maxRecDepth 100000 in
theorem cw_96 : lw_tbl[1931]? = some (.code (mY 96) (mC 96) (mL 96) (mR9 96)) := rfl
set_option maxRecDepth 100000 in
theorem cw_97 : lw_tbl[1927]? = some (.code (mY 97) (mC 97) (mL 97) (mR9 97)) := rfl
set_option maxRecDepth 100000 in
theorem cw_98 : lw_tbl[1876]? = some (.code (mY 98) (mC 98) (mL 98) (mR9 98)) := rfl
set_option maxRecDepth 100000 in
theorem cw_99 : lw_tbl[1884]? = some (.code (mY 99) (mC 99) (mL 99) (mR9 99)) := rfl
set_option maxRecDepth 100000 in
theorem cw_100 : lw_tbl[1899]? = some (.code (mY 100) (mC 100) (mL 100) (mR9 100)) := rfl
set_option maxRecDepth 100000 in
theorem cw_101 : lw_tbl[1915]? = some (.code (mY 101) (mC 101) (mL 101) (mR9 101)) := rfl
set_option maxRecDepth 100000 in
theorem cw_102 : lw_tbl[1923]? = some (.code (mY 102) (mC 102) (mL 102) (mR9 102)) := rfl
set_option maxRecDepth 100000 in
theorem cw_103 : lw_tbl[1880]? = some (.code (mY 103) (mC 103) (mL 103) (mR9 103)) := rfl
set_option maxRecDepth 100000 in
theorem cw_104 : lw_tbl[1935]? = some (.code (mY 104) (mC 104) (mL 104) (mR9 104)) := rfl
set_option maxRecDepth 100000 in
theorem cw_105 : lw_tbl[1972]? = some (.code (mY 105) (mC 105) (mL 105) (mR9 105)) := rfl
set_option maxRecDepth 100000 in
theorem cw_106 : lw_tbl[1976]? = some (.code (mY 106) (mC 106) (mL 106) (mR9 106)) := rfl
set_option maxRecDepth 100000 in
theorem cw_107 : lw_tbl[1948]? = some (.code (mY 107) (mC 107) (mL 107) (mR9 107)) := rfl
set_option maxRecDepth 100000 in
theorem cw_108 : lw_tbl[1943]? = some (.code (mY 108) (mC 108) (mL 108) (mR9 108)) := rfl
set_option maxRecDepth 100000 in
theorem cw_109 : lw_tbl[1939]? = some (.code (mY 109) (mC 109) (mL 109) (mR9 109)) := rfl
set_option maxRecDepth 100000 in
theorem cw_110 : lw_tbl[1952]? = some (.code (mY 110) (mC 110) (mL 110) (mR9 110)) := rfl
set_option maxRecDepth 100000 in
theorem cw_111 : lw_tbl[1956]? = some (.code (mY 111) (mC 111) (mL 111) (mR9 111)) := rfl
set_option maxRecDepth 100000 in
theorem cw_112 : lw_tbl[1960]? = some (.code (mY 112) (mC 112) (mL 112) (mR9 112)) := rfl
set_option maxRecDepth 100000 in
theorem cw_113 : lw_tbl[1968]? = some (.code (mY 113) (mC 113) (mL 113) (mR9 113)) := rfl
set_option maxRecDepth 100000 in
theorem cw_114 : lw_tbl[1964]? = some (.code (mY 114) (mC 114) (mL 114) (mR9 114)) := rfl
set_option maxRecDepth 100000 in
theorem cw_115 : lw_tbl[1980]? = some (.code (mY 115) (mC 115) (mL 115) (mR9 115)) := rfl
set_option maxRecDepth 100000 in
theorem cw_116 : lw_tbl[1984]? = some (.code (mY 116) (mC 116) (mL 116) (mR9 116)) := rfl
set_option maxRecDepth 100000 in
theorem cw_117 : lw_tbl[1996]? = some (.code (mY 117) (mC 117) (mL 117) (mR9 117)) := rfl
set_option maxRecDepth 100000 in
theorem cw_118 : lw_tbl[2000]? = some (.code (mY 118) (mC 118) (mL 118) (mR9 118)) := rfl
set_option maxRecDepth 100000 in
theorem cw_119 : lw_tbl[1988]? = some (.code (mY 119) (mC 119) (mL 119) (mR9 119)) := rfl
set_option maxRecDepth 100000 in
theorem cw_120 : lw_tbl[2004]? = some (.code (mY 120) (mC 120) (mL 120) (mR9 120)) := rfl
set_option maxRecDepth 100000 in
theorem cw_121 : lw_tbl[2008]? = some (.code (mY 121) (mC 121) (mL 121) (mR9 121)) := rfl
set_option maxRecDepth 100000 in
theorem cw_122 : lw_tbl[2012]? = some (.code (mY 122) (mC 122) (mL 122) (mR9 122)) := rfl
set_option maxRecDepth 100000 in
theorem cw_123 : lw_tbl[2025]? = some (.code (mY 123) (mC 123) (mL 123) (mR9 123)) := rfl
set_option maxRecDepth 100000 in
theorem cw_124 : lw_tbl[2020]? = some (.code (mY 124) (mC 124) (mL 124) (mR9 124)) := rfl
set_option maxRecDepth 100000 in
theorem cw_125 : lw_tbl[2030]? = some (.code (mY 125) (mC 125) (mL 125) (mR9 125)) := rfl
set_option maxRecDepth 100000 in
theorem cw_126 : lw_tbl[2035]? = some (.code (mY 126) (mC 126) (mL 126) (mR9 126)) := rfl
set_option maxRecDepth 100000 in
theorem cw_127 : lw_tbl[2016]? = some (.code (mY 127) (mC 127) (mL 127) (mR9 127)) := rfl
set_option maxRecDepth 100000 in
theorem cw_128 : lw_tbl[2040]? = some (.code (mY 128) (mC 128) (mL 128) (mR9 128)) := rfl
set_option maxRecDepth 100000 in
theorem cw_129 : lw_tbl[2056]? = some (.code (mY 129) (mC 129) (mL 129) (mR9 129)) := rfl
set_option maxRecDepth 100000 in
theorem cw_130 : lw_tbl[2052]? = some (.code (mY 130) (mC 130) (mL 130) (mR9 130)) := rfl
set_option maxRecDepth 100000 in
theorem cw_131 : lw_tbl[2048]? = some (.code (mY 131) (mC 131) (mL 131) (mR9 131)) := rfl
set_option maxRecDepth 100000 in
theorem cw_132 : lw_tbl[2044]? = some (.code (mY 132) (mC 132) (mL 132) (mR9 132)) := rfl
set_option maxRecDepth 100000 in
theorem cw_133 : lw_tbl[2061]? = some (.code (mY 133) (mC 133) (mL 133) (mR9 133)) := rfl
set_option maxRecDepth 100000 in
theorem cw_134 : lw_tbl[2069]? = some (.code (mY 134) (mC 134) (mL 134) (mR9 134)) := rfl
set_option maxRecDepth 100000 in
theorem cw_135 : lw_tbl[2077]? = some (.code (mY 135) (mC 135) (mL 135) (mR9 135)) := rfl
set_option maxRecDepth 100000 in
theorem cw_136 : lw_tbl[2065]? = some (.code (mY 136) (mC 136) (mL 136) (mR9 136)) := rfl
set_option maxRecDepth 100000 in
theorem cw_137 : lw_tbl[2081]? = some (.code (mY 137) (mC 137) (mL 137) (mR9 137)) := rfl
set_option maxRecDepth 100000 in
theorem cw_138 : lw_tbl[2093]? = some (.code (mY 138) (mC 138) (mL 138) (mR9 138)) := rfl
set_option maxRecDepth 100000 in
theorem cw_139 : lw_tbl[2097]? = some (.code (mY 139) (mC 139) (mL 139) (mR9 139)) := rfl
set_option maxRecDepth 100000 in
theorem cw_140 : lw_tbl[2089]? = some (.code (mY 140) (mC 140) (mL 140) (mR9 140)) := rfl
set_option maxRecDepth 100000 in
theorem cw_141 : lw_tbl[2109]? = some (.code (mY 141) (mC 141) (mL 141) (mR9 141)) := rfl
set_option maxRecDepth 100000 in
theorem cw_142 : lw_tbl[2105]? = some (.code (mY 142) (mC 142) (mL 142) (mR9 142)) := rfl
set_option maxRecDepth 100000 in
theorem cw_143 : lw_tbl[2101]? = some (.code (mY 143) (mC 143) (mL 143) (mR9 143)) := rfl
set_option maxRecDepth 100000 in
theorem cw_144 : lw_tbl[2085]? = some (.code (mY 144) (mC 144) (mL 144) (mR9 144)) := rfl
set_option maxRecDepth 100000 in
theorem cw_145 : lw_tbl[2121]? = some (.code (mY 145) (mC 145) (mL 145) (mR9 145)) := rfl
set_option maxRecDepth 100000 in
theorem cw_146 : lw_tbl[2117]? = some (.code (mY 146) (mC 146) (mL 146) (mR9 146)) := rfl
set_option maxRecDepth 100000 in
theorem cw_147 : lw_tbl[2113]? = some (.code (mY 147) (mC 147) (mL 147) (mR9 147)) := rfl
set_option maxRecDepth 100000 in
theorem cw_148 : lw_tbl[2125]? = some (.code (mY 148) (mC 148) (mL 148) (mR9 148)) := rfl
set_option maxRecDepth 100000 in
theorem cw_149 : lw_tbl[2129]? = some (.code (mY 149) (mC 149) (mL 149) (mR9 149)) := rfl
set_option maxRecDepth 100000 in
theorem cw_150 : lw_tbl[2133]? = some (.code (mY 150) (mC 150) (mL 150) (mR9 150)) := rfl
set_option maxRecDepth 100000 in
theorem cw_151 : lw_tbl[1274]? = some (.code (mY 151) (mC 151) (mL 151) (mR9 151)) := rfl
set_option maxRecDepth 100000 in
theorem cw_152 : lw_tbl[1307]? = some (.code (mY 152) (mC 152) (mL 152) (mR9 152)) := rfl
set_option maxRecDepth 100000 in
theorem cw_153 : lw_tbl[1280]? = some (.code (mY 153) (mC 153) (mL 153) (mR9 153)) := rfl
set_option maxRecDepth 100000 in
theorem cw_154 : lw_tbl[1312]? = some (.code (mY 154) (mC 154) (mL 154) (mR9 154)) := rfl
set_option maxRecDepth 100000 in
theorem cw_155 : lw_tbl[1316]? = some (.code (mY 155) (mC 155) (mL 155) (mR9 155)) := rfl
set_option maxRecDepth 100000 in
theorem cw_156 : lw_tbl[1324]? = some (.code (mY 156) (mC 156) (mL 156) (mR9 156)) := rfl
set_option maxRecDepth 100000 in
theorem cw_157 : lw_tbl[748]? = some (.code (mY 157) (mC 157) (mL 157) (mR9 157)) := rfl
set_option maxRecDepth 100000 in
theorem cw_158 : lw_tbl[811]? = some (.code (mY 158) (mC 158) (mL 158) (mR9 158)) := rfl
set_option maxRecDepth 100000 in
theorem cw_159 : lw_tbl[932]? = some (.code (mY 159) (mC 159) (mL 159) (mR9 159)) := rfl
set_option maxRecDepth 100000 in
theorem cw_160 : lw_tbl[614]? = some (.code (mY 160) (mC 160) (mL 160) (mR9 160)) := rfl
set_option maxRecDepth 100000 in
theorem cw_161 : lw_tbl[1299]? = some (.code (mY 161) (mC 161) (mL 161) (mR9 161)) := rfl
set_option maxRecDepth 100000 in
theorem cw_162 : lw_tbl[158]? = some (.code (mY 162) (mC 162) (mL 162) (mR9 162)) := rfl
set_option maxRecDepth 100000 in
theorem cw_163 : lw_tbl[732]? = some (.code (mY 163) (mC 163) (mL 163) (mR9 163)) := rfl
set_option maxRecDepth 100000 in
theorem cw_164 : lw_tbl[794]? = some (.code (mY 164) (mC 164) (mL 164) (mR9 164)) := rfl
set_option maxRecDepth 100000 in
theorem cw_165 : lw_tbl[760]? = some (.code (mY 165) (mC 165) (mL 165) (mR9 165)) := rfl
set_option maxRecDepth 100000 in
theorem cw_166 : lw_tbl[777]? = some (.code (mY 166) (mC 166) (mL 166) (mR9 166)) := rfl
set_option maxRecDepth 100000 in
theorem cw_167 : lw_tbl[802]? = some (.code (mY 167) (mC 167) (mL 167) (mR9 167)) := rfl
set_option maxRecDepth 100000 in
theorem cw_168 : lw_tbl[705]? = some (.code (mY 168) (mC 168) (mL 168) (mR9 168)) := rfl
set_option maxRecDepth 100000 in
theorem cw_169 : lw_tbl[846]? = some (.code (mY 169) (mC 169) (mL 169) (mR9 169)) := rfl
set_option maxRecDepth 100000 in
theorem cw_170 : lw_tbl[598]? = some (.code (mY 170) (mC 170) (mL 170) (mR9 170)) := rfl
set_option maxRecDepth 100000 in
theorem cw_171 : lw_tbl[641]? = some (.code (mY 171) (mC 171) (mL 171) (mR9 171)) := rfl
set_option maxRecDepth 100000 in
theorem cw_172 : lw_tbl[645]? = some (.code (mY 172) (mC 172) (mL 172) (mR9 172)) := rfl
set_option maxRecDepth 100000 in
theorem cw_173 : lw_tbl[669]? = some (.code (mY 173) (mC 173) (mL 173) (mR9 173)) := rfl
set_option maxRecDepth 100000 in
theorem cw_174 : lw_tbl[693]? = some (.code (mY 174) (mC 174) (mL 174) (mR9 174)) := rfl
set_option maxRecDepth 100000 in
theorem cw_175 : lw_tbl[673]? = some (.code (mY 175) (mC 175) (mL 175) (mR9 175)) := rfl
set_option maxRecDepth 100000 in
theorem cw_176 : lw_tbl[605]? = some (.code (mY 176) (mC 176) (mL 176) (mR9 176)) := rfl
set_option maxRecDepth 100000 in
theorem cw_177 : lw_tbl[609]? = some (.code (mY 177) (mC 177) (mL 177) (mR9 177)) := rfl
set_option maxRecDepth 100000 in
theorem cw_178 : lw_tbl[723]? = some (.code (mY 178) (mC 178) (mL 178) (mR9 178)) := rfl
set_option maxRecDepth 100000 in
theorem cw_179 : lw_tbl[678]? = some (.code (mY 179) (mC 179) (mL 179) (mR9 179)) := rfl
set_option maxRecDepth 100000 in
theorem cw_180 : lw_tbl[1288]? = some (.code (mY 180) (mC 180) (mL 180) (mR9 180)) := rfl
set_option maxRecDepth 100000 in
theorem cw_181 : lw_tbl[701]? = some (.code (mY 181) (mC 181) (mL 181) (mR9 181)) := rfl
set_option maxRecDepth 100000 in
theorem cw_182 : lw_tbl[628]? = some (.code (mY 182) (mC 182) (mL 182) (mR9 182)) := rfl
set_option maxRecDepth 100000 in
theorem cw_183 : lw_tbl[728]? = some (.code (mY 183) (mC 183) (mL 183) (mR9 183)) := rfl
set_option maxRecDepth 100000 in
theorem cw_184 : lw_tbl[1396]? = some (.code (mY 184) (mC 184) (mL 184) (mR9 184)) := rfl
set_option maxRecDepth 100000 in
theorem cw_185 : lw_tbl[637]? = some (.code (mY 185) (mC 185) (mL 185) (mR9 185)) := rfl
set_option maxRecDepth 100000 in
theorem cw_186 : lw_tbl[744]? = some (.code (mY 186) (mC 186) (mL 186) (mR9 186)) := rfl
set_option maxRecDepth 100000 in
theorem cw_187 : lw_tbl[1343]? = some (.code (mY 187) (mC 187) (mL 187) (mR9 187)) := rfl
set_option maxRecDepth 100000 in
theorem cw_188 : lw_tbl[1348]? = some (.code (mY 188) (mC 188) (mL 188) (mR9 188)) := rfl
set_option maxRecDepth 100000 in
theorem cw_189 : lw_tbl[1352]? = some (.code (mY 189) (mC 189) (mL 189) (mR9 189)) := rfl
set_option maxRecDepth 100000 in
theorem cw_190 : lw_tbl[1356]? = some (.code (mY 190) (mC 190) (mL 190) (mR9 190)) := rfl
set_option maxRecDepth 100000 in
theorem cw_191 : lw_tbl[1359]? = some (.code (mY 191) (mC 191) (mL 191) (mR9 191)) := rfl
set_option maxRecDepth 100000 in
theorem cw_192 : lw_tbl[1375]? = some (.code (mY 192) (mC 192) (mL 192) (mR9 192)) := rfl
set_option maxRecDepth 100000 in
theorem cw_193 : lw_tbl[1368]? = some (.code (mY 193) (mC 193) (mL 193) (mR9 193)) := rfl
set_option maxRecDepth 100000 in
theorem cw_194 : lw_tbl[1400]? = some (.code (mY 194) (mC 194) (mL 194) (mR9 194)) := rfl
set_option maxRecDepth 100000 in
theorem cw_195 : lw_tbl[1404]? = some (.code (mY 195) (mC 195) (mL 195) (mR9 195)) := rfl
set_option maxRecDepth 100000 in
theorem cw_196 : lw_tbl[1410]? = some (.code (mY 196) (mC 196) (mL 196) (mR9 196)) := rfl
set_option maxRecDepth 100000 in
theorem cw_197 : lw_tbl[1413]? = some (.code (mY 197) (mC 197) (mL 197) (mR9 197)) := rfl
set_option maxRecDepth 100000 in
theorem cw_198 : lw_tbl[633]? = some (.code (mY 198) (mC 198) (mL 198) (mR9 198)) := rfl
set_option maxRecDepth 100000 in
theorem cw_199 : lw_tbl[739]? = some (.code (mY 199) (mC 199) (mL 199) (mR9 199)) := rfl
set_option maxRecDepth 100000 in
theorem cw_200 : lw_tbl[717]? = some (.code (mY 200) (mC 200) (mL 200) (mR9 200)) := rfl
set_option maxRecDepth 100000 in
theorem cw_201 : lw_tbl[889]? = some (.code (mY 201) (mC 201) (mL 201) (mR9 201)) := rfl
set_option maxRecDepth 100000 in
theorem cw_202 : lw_tbl[713]? = some (.code (mY 202) (mC 202) (mL 202) (mR9 202)) := rfl
set_option maxRecDepth 100000 in
theorem cw_203 : lw_tbl[765]? = some (.code (mY 203) (mC 203) (mL 203) (mR9 203)) := rfl
set_option maxRecDepth 100000 in
theorem cw_204 : lw_tbl[709]? = some (.code (mY 204) (mC 204) (mL 204) (mR9 204)) := rfl
set_option maxRecDepth 100000 in
theorem cw_205 : lw_tbl[1020]? = some (.code (mY 205) (mC 205) (mL 205) (mR9 205)) := rfl
set_option maxRecDepth 100000 in
theorem cw_206 : lw_tbl[1025]? = some (.code (mY 206) (mC 206) (mL 206) (mR9 206)) := rfl
set_option maxRecDepth 100000 in
theorem cw_207 : lw_tbl[773]? = some (.code (mY 207) (mC 207) (mL 207) (mR9 207)) := rfl
set_option maxRecDepth 100000 in
theorem cw_208 : lw_tbl[782]? = some (.code (mY 208) (mC 208) (mL 208) (mR9 208)) := rfl
set_option maxRecDepth 100000 in
theorem cw_209 : lw_tbl[1498]? = some (.code (mY 209) (mC 209) (mL 209) (mR9 209)) := rfl
set_option maxRecDepth 100000 in
theorem cw_210 : lw_tbl[881]? = some (.code (mY 210) (mC 210) (mL 210) (mR9 210)) := rfl
set_option maxRecDepth 100000 in
theorem cw_211 : lw_tbl[877]? = some (.code (mY 211) (mC 211) (mL 211) (mR9 211)) := rfl
set_option maxRecDepth 100000 in
theorem cw_212 : lw_tbl[798]? = some (.code (mY 212) (mC 212) (mL 212) (mR9 212)) := rfl
set_option maxRecDepth 100000 in
theorem cw_213 : lw_tbl[817]? = some (.code (mY 213) (mC 213) (mL 213) (mR9 213)) := rfl
set_option maxRecDepth 100000 in
theorem cw_214 : lw_tbl[826]? = some (.code (mY 214) (mC 214) (mL 214) (mR9 214)) := rfl
set_option maxRecDepth 100000 in
theorem cw_215 : lw_tbl[830]? = some (.code (mY 215) (mC 215) (mL 215) (mR9 215)) := rfl
set_option maxRecDepth 100000 in
theorem cw_216 : lw_tbl[843]? = some (.code (mY 216) (mC 216) (mL 216) (mR9 216)) := rfl
set_option maxRecDepth 100000 in
theorem cw_217 : lw_tbl[850]? = some (.code (mY 217) (mC 217) (mL 217) (mR9 217)) := rfl
set_option maxRecDepth 100000 in
theorem cw_218 : lw_tbl[855]? = some (.code (mY 218) (mC 218) (mL 218) (mR9 218)) := rfl
set_option maxRecDepth 100000 in
theorem cw_219 : lw_tbl[864]? = some (.code (mY 219) (mC 219) (mL 219) (mR9 219)) := rfl
set_option maxRecDepth 100000 in
theorem cw_220 : lw_tbl[868]? = some (.code (mY 220) (mC 220) (mL 220) (mR9 220)) := rfl
set_option maxRecDepth 100000 in
theorem cw_221 : lw_tbl[873]? = some (.code (mY 221) (mC 221) (mL 221) (mR9 221)) := rfl
set_option maxRecDepth 100000 in
theorem cw_222 : lw_tbl[894]? = some (.code (mY 222) (mC 222) (mL 222) (mR9 222)) := rfl
set_option maxRecDepth 100000 in
theorem cw_223 : lw_tbl[898]? = some (.code (mY 223) (mC 223) (mL 223) (mR9 223)) := rfl
set_option maxRecDepth 100000 in
theorem cw_224 : lw_tbl[902]? = some (.code (mY 224) (mC 224) (mL 224) (mR9 224)) := rfl
set_option maxRecDepth 100000 in
theorem cw_225 : lw_tbl[910]? = some (.code (mY 225) (mC 225) (mL 225) (mR9 225)) := rfl
set_option maxRecDepth 100000 in
theorem cw_226 : lw_tbl[914]? = some (.code (mY 226) (mC 226) (mL 226) (mR9 226)) := rfl
set_option maxRecDepth 100000 in
theorem cw_227 : lw_tbl[918]? = some (.code (mY 227) (mC 227) (mL 227) (mR9 227)) := rfl
set_option maxRecDepth 100000 in
theorem cw_228 : lw_tbl[624]? = some (.code (mY 228) (mC 228) (mL 228) (mR9 228)) := rfl
set_option maxRecDepth 100000 in
theorem cw_229 : lw_tbl[649]? = some (.code (mY 229) (mC 229) (mL 229) (mR9 229)) := rfl
set_option maxRecDepth 100000 in
theorem cw_230 : lw_tbl[665]? = some (.code (mY 230) (mC 230) (mL 230) (mR9 230)) := rfl
set_option maxRecDepth 100000 in
theorem cw_231 : lw_tbl[661]? = some (.code (mY 231) (mC 231) (mL 231) (mR9 231)) := rfl
set_option maxRecDepth 100000 in
theorem cw_232 : lw_tbl[685]? = some (.code (mY 232) (mC 232) (mL 232) (mR9 232)) := rfl
set_option maxRecDepth 100000 in
theorem cw_233 : lw_tbl[689]? = some (.code (mY 233) (mC 233) (mL 233) (mR9 233)) := rfl
set_option maxRecDepth 100000 in
theorem cw_234 : lw_tbl[697]? = some (.code (mY 234) (mC 234) (mL 234) (mR9 234)) := rfl
set_option maxRecDepth 100000 in
theorem cw_235 : lw_tbl[968]? = some (.code (mY 235) (mC 235) (mL 235) (mR9 235)) := rfl
set_option maxRecDepth 100000 in
theorem cw_236 : lw_tbl[945]? = some (.code (mY 236) (mC 236) (mL 236) (mR9 236)) := rfl
set_option maxRecDepth 100000 in
theorem cw_237 : lw_tbl[950]? = some (.code (mY 237) (mC 237) (mL 237) (mR9 237)) := rfl
set_option maxRecDepth 100000 in
theorem cw_238 : lw_tbl[956]? = some (.code (mY 238) (mC 238) (mL 238) (mR9 238)) := rfl
set_option maxRecDepth 100000 in
theorem cw_239 : lw_tbl[960]? = some (.code (mY 239) (mC 239) (mL 239) (mR9 239)) := rfl
set_option maxRecDepth 100000 in
theorem cw_240 : lw_tbl[976]? = some (.code (mY 240) (mC 240) (mL 240) (mR9 240)) := rfl
set_option maxRecDepth 100000 in
theorem cw_241 : lw_tbl[980]? = some (.code (mY 241) (mC 241) (mL 241) (mR9 241)) := rfl
set_option maxRecDepth 100000 in
theorem cw_242 : lw_tbl[989]? = some (.code (mY 242) (mC 242) (mL 242) (mR9 242)) := rfl
set_option maxRecDepth 100000 in
theorem cw_243 : lw_tbl[993]? = some (.code (mY 243) (mC 243) (mL 243) (mR9 243)) := rfl
set_option maxRecDepth 100000 in
theorem cw_244 : lw_tbl[230]? = some (.code (mY 244) (mC 244) (mL 244) (mR9 244)) := rfl
theorem cw_in {j i : Nat} (h : lw_tbl[i]? = some (.code (mY j) (mC j) (mL j) (mR9 j))) : Cond.code (mY j) (mC j) (mL j) (mR9 j) ∈ Tg := Tg_of (List.mem_of_getElem? h) rfl
set_option maxRecDepth 100000 in
theorem mok_0 : ((List.range 50).drop 0).all (fun j => mokB j (mix.getD j (0, 0, 0, 0, 0))) = true := by decide +kernel
set_option maxRecDepth 100000 in
theorem mok_1 : ((List.range 100).drop 50).all (fun j => mokB j (mix.getD j (0, 0, 0, 0, 0))) = true := by decide +kernel
set_option maxRecDepth 100000 in
theorem mok_2 : ((List.range 150).drop 100).all (fun j => mokB j (mix.getD j (0, 0, 0, 0, 0))) = true := by decide +kernel
set_option maxRecDepth 100000 in
theorem mok_3 : ((List.range 200).drop 150).all (fun j => mokB j (mix.getD j (0, 0, 0, 0, 0))) = true := by decide +kernel
set_option maxRecDepth 100000 in
theorem mok_4 : ((List.range 245).drop 200).all (fun j => mokB j (mix.getD j (0, 0, 0, 0, 0))) = true := by decide +kernel
theorem mok_all (j : Nat) (hj : j < 245) : mokB j (mix.getD j (0, 0, 0, 0, 0)) = true := by
  have key : ∀ a b : Nat, ((List.range b).drop a).all (fun j => mokB j (mix.getD j (0, 0, 0, 0, 0))) = true → a ≤ j → j < b → mokB j (mix.getD j (0, 0, 0, 0, 0)) = true := by
    intro a b h h1 h2
    refine List.all_eq_true.mp h j (List.mem_of_getElem? (i := j - a) ?_)
    rw [List.getElem?_drop, List.getElem?_range (by omega)]
    congr 1
    omega
  by_cases h0 : j < 50
  · exact key 0 50 mok_0 (by omega) h0
  by_cases h1 : j < 100
  · exact key 50 100 mok_1 (by omega) h1
  by_cases h2 : j < 150
  · exact key 100 150 mok_2 (by omega) h2
  by_cases h3 : j < 200
  · exact key 150 200 mok_3 (by omega) h3
  exact key 200 245 mok_4 (by omega) hj
theorem cw_all (j : Nat) (hj : j < 245) : Cond.code (mY j) (mC j) (mL j) (mR9 j) ∈ Tg := by
  match j, hj with
  | 0, _ => exact cw_in cw_0
  | 1, _ => exact cw_in cw_1
  | 2, _ => exact cw_in cw_2
  | 3, _ => exact cw_in cw_3
  | 4, _ => exact cw_in cw_4
  | 5, _ => exact cw_in cw_5
  | 6, _ => exact cw_in cw_6
  | 7, _ => exact cw_in cw_7
  | 8, _ => exact cw_in cw_8
  | 9, _ => exact cw_in cw_9
  | 10, _ => exact cw_in cw_10
  | 11, _ => exact cw_in cw_11
  | 12, _ => exact cw_in cw_12
  | 13, _ => exact cw_in cw_13
  | 14, _ => exact cw_in cw_14
  | 15, _ => exact cw_in cw_15
  | 16, _ => exact cw_in cw_16
  | 17, _ => exact cw_in cw_17
  | 18, _ => exact cw_in cw_18
  | 19, _ => exact cw_in cw_19
  | 20, _ => exact cw_in cw_20
  | 21, _ => exact cw_in cw_21
  | 22, _ => exact cw_in cw_22
  | 23, _ => exact cw_in cw_23
  | 24, _ => exact cw_in cw_24
  | 25, _ => exact cw_in cw_25
  | 26, _ => exact cw_in cw_26
  | 27, _ => exact cw_in cw_27
  | 28, _ => exact cw_in cw_28
  | 29, _ => exact cw_in cw_29
  | 30, _ => exact cw_in cw_30
  | 31, _ => exact cw_in cw_31
  | 32, _ => exact cw_in cw_32
  | 33, _ => exact cw_in cw_33
  | 34, _ => exact cw_in cw_34
  | 35, _ => exact cw_in cw_35
  | 36, _ => exact cw_in cw_36
  | 37, _ => exact cw_in cw_37
  | 38, _ => exact cw_in cw_38
  | 39, _ => exact cw_in cw_39
  | 40, _ => exact cw_in cw_40
  | 41, _ => exact cw_in cw_41
  | 42, _ => exact cw_in cw_42
  | 43, _ => exact cw_in cw_43
  | 44, _ => exact cw_in cw_44
  | 45, _ => exact cw_in cw_45
  | 46, _ => exact cw_in cw_46
  | 47, _ => exact cw_in cw_47
  | 48, _ => exact cw_in cw_48
  | 49, _ => exact cw_in cw_49
  | 50, _ => exact cw_in cw_50
  | 51, _ => exact cw_in cw_51
  | 52, _ => exact cw_in cw_52
  | 53, _ => exact cw_in cw_53
  | 54, _ => exact cw_in cw_54
  | 55, _ => exact cw_in cw_55
  | 56, _ => exact cw_in cw_56
  | 57, _ => exact cw_in cw_57
  | 58, _ => exact cw_in cw_58
  | 59, _ => exact cw_in cw_59
  | 60, _ => exact cw_in cw_60
  | 61, _ => exact cw_in cw_61
  | 62, _ => exact cw_in cw_62
  | 63, _ => exact cw_in cw_63
  | 64, _ => exact cw_in cw_64
  | 65, _ => exact cw_in cw_65
  | 66, _ => exact cw_in cw_66
  | 67, _ => exact cw_in cw_67
  | 68, _ => exact cw_in cw_68
  | 69, _ => exact cw_in cw_69
  | 70, _ => exact cw_in cw_70
  | 71, _ => exact cw_in cw_71
  | 72, _ => exact cw_in cw_72
  | 73, _ => exact cw_in cw_73
  | 74, _ => exact cw_in cw_74
  | 75, _ => exact cw_in cw_75
  | 76, _ => exact cw_in cw_76
  | 77, _ => exact cw_in cw_77
  | 78, _ => exact cw_in cw_78
  | 79, _ => exact cw_in cw_79
  | 80, _ => exact cw_in cw_80
  | 81, _ => exact cw_in cw_81
  | 82, _ => exact cw_in cw_82
  | 83, _ => exact cw_in cw_83
  | 84, _ => exact cw_in cw_84
  | 85, _ => exact cw_in cw_85
  | 86, _ => exact cw_in cw_86
  | 87, _ => exact cw_in cw_87
  | 88, _ => exact cw_in cw_88
  | 89, _ => exact cw_in cw_89
  | 90, _ => exact cw_in cw_90
  | 91, _ => exact cw_in cw_91
  | 92, _ => exact cw_in cw_92
  | 93, _ => exact cw_in cw_93
  | 94, _ => exact cw_in cw_94
  | 95, _ => exact cw_in cw_95
  | 96, _ => exact cw_in cw_96
  | 97, _ => exact cw_in cw_97
  | 98, _ => exact cw_in cw_98
  | 99, _ => exact cw_in cw_99
  | 100, _ => exact cw_in cw_100
  | 101, _ => exact cw_in cw_101
  | 102, _ => exact cw_in cw_102
  | 103, _ => exact cw_in cw_103
  | 104, _ => exact cw_in cw_104
  | 105, _ => exact cw_in cw_105
  | 106, _ => exact cw_in cw_106
  | 107, _ => exact cw_in cw_107
  | 108, _ => exact cw_in cw_108
  | 109, _ => exact cw_in cw_109
  | 110, _ => exact cw_in cw_110
  | 111, _ => exact cw_in cw_111
  | 112, _ => exact cw_in cw_112
  | 113, _ => exact cw_in cw_113
  | 114, _ => exact cw_in cw_114
  | 115, _ => exact cw_in cw_115
  | 116, _ => exact cw_in cw_116
  | 117, _ => exact cw_in cw_117
  | 118, _ => exact cw_in cw_118
  | 119, _ => exact cw_in cw_119
  | 120, _ => exact cw_in cw_120
  | 121, _ => exact cw_in cw_121
  | 122, _ => exact cw_in cw_122
  | 123, _ => exact cw_in cw_123
  | 124, _ => exact cw_in cw_124
  | 125, _ => exact cw_in cw_125
  | 126, _ => exact cw_in cw_126
  | 127, _ => exact cw_in cw_127
  | 128, _ => exact cw_in cw_128
  | 129, _ => exact cw_in cw_129
  | 130, _ => exact cw_in cw_130
  | 131, _ => exact cw_in cw_131
  | 132, _ => exact cw_in cw_132
  | 133, _ => exact cw_in cw_133
  | 134, _ => exact cw_in cw_134
  | 135, _ => exact cw_in cw_135
  | 136, _ => exact cw_in cw_136
  | 137, _ => exact cw_in cw_137
  | 138, _ => exact cw_in cw_138
  | 139, _ => exact cw_in cw_139
  | 140, _ => exact cw_in cw_140
  | 141, _ => exact cw_in cw_141
  | 142, _ => exact cw_in cw_142
  | 143, _ => exact cw_in cw_143
  | 144, _ => exact cw_in cw_144
  | 145, _ => exact cw_in cw_145
  | 146, _ => exact cw_in cw_146
  | 147, _ => exact cw_in cw_147
  | 148, _ => exact cw_in cw_148
  | 149, _ => exact cw_in cw_149
  | 150, _ => exact cw_in cw_150
  | 151, _ => exact cw_in cw_151
  | 152, _ => exact cw_in cw_152
  | 153, _ => exact cw_in cw_153
  | 154, _ => exact cw_in cw_154
  | 155, _ => exact cw_in cw_155
  | 156, _ => exact cw_in cw_156
  | 157, _ => exact cw_in cw_157
  | 158, _ => exact cw_in cw_158
  | 159, _ => exact cw_in cw_159
  | 160, _ => exact cw_in cw_160
  | 161, _ => exact cw_in cw_161
  | 162, _ => exact cw_in cw_162
  | 163, _ => exact cw_in cw_163
  | 164, _ => exact cw_in cw_164
  | 165, _ => exact cw_in cw_165
  | 166, _ => exact cw_in cw_166
  | 167, _ => exact cw_in cw_167
  | 168, _ => exact cw_in cw_168
  | 169, _ => exact cw_in cw_169
  | 170, _ => exact cw_in cw_170
  | 171, _ => exact cw_in cw_171
  | 172, _ => exact cw_in cw_172
  | 173, _ => exact cw_in cw_173
  | 174, _ => exact cw_in cw_174
  | 175, _ => exact cw_in cw_175
  | 176, _ => exact cw_in cw_176
  | 177, _ => exact cw_in cw_177
  | 178, _ => exact cw_in cw_178
  | 179, _ => exact cw_in cw_179
  | 180, _ => exact cw_in cw_180
  | 181, _ => exact cw_in cw_181
  | 182, _ => exact cw_in cw_182
  | 183, _ => exact cw_in cw_183
  | 184, _ => exact cw_in cw_184
  | 185, _ => exact cw_in cw_185
  | 186, _ => exact cw_in cw_186
  | 187, _ => exact cw_in cw_187
  | 188, _ => exact cw_in cw_188
  | 189, _ => exact cw_in cw_189
  | 190, _ => exact cw_in cw_190
  | 191, _ => exact cw_in cw_191
  | 192, _ => exact cw_in cw_192
  | 193, _ => exact cw_in cw_193
  | 194, _ => exact cw_in cw_194
  | 195, _ => exact cw_in cw_195
  | 196, _ => exact cw_in cw_196
  | 197, _ => exact cw_in cw_197
  | 198, _ => exact cw_in cw_198
  | 199, _ => exact cw_in cw_199
  | 200, _ => exact cw_in cw_200
  | 201, _ => exact cw_in cw_201
  | 202, _ => exact cw_in cw_202
  | 203, _ => exact cw_in cw_203
  | 204, _ => exact cw_in cw_204
  | 205, _ => exact cw_in cw_205
  | 206, _ => exact cw_in cw_206
  | 207, _ => exact cw_in cw_207
  | 208, _ => exact cw_in cw_208
  | 209, _ => exact cw_in cw_209
  | 210, _ => exact cw_in cw_210
  | 211, _ => exact cw_in cw_211
  | 212, _ => exact cw_in cw_212
  | 213, _ => exact cw_in cw_213
  | 214, _ => exact cw_in cw_214
  | 215, _ => exact cw_in cw_215
  | 216, _ => exact cw_in cw_216
  | 217, _ => exact cw_in cw_217
  | 218, _ => exact cw_in cw_218
  | 219, _ => exact cw_in cw_219
  | 220, _ => exact cw_in cw_220
  | 221, _ => exact cw_in cw_221
  | 222, _ => exact cw_in cw_222
  | 223, _ => exact cw_in cw_223
  | 224, _ => exact cw_in cw_224
  | 225, _ => exact cw_in cw_225
  | 226, _ => exact cw_in cw_226
  | 227, _ => exact cw_in cw_227
  | 228, _ => exact cw_in cw_228
  | 229, _ => exact cw_in cw_229
  | 230, _ => exact cw_in cw_230
  | 231, _ => exact cw_in cw_231
  | 232, _ => exact cw_in cw_232
  | 233, _ => exact cw_in cw_233
  | 234, _ => exact cw_in cw_234
  | 235, _ => exact cw_in cw_235
  | 236, _ => exact cw_in cw_236
  | 237, _ => exact cw_in cw_237
  | 238, _ => exact cw_in cw_238
  | 239, _ => exact cw_in cw_239
  | 240, _ => exact cw_in cw_240
  | 241, _ => exact cw_in cw_241
  | 242, _ => exact cw_in cw_242
  | 243, _ => exact cw_in cw_243
  | 244, _ => exact cw_in cw_244
  | k + 245, h => exact absurd h (by omega)
