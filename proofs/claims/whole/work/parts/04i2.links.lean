/-! Printed by wip/whole/gen_links.py, further. -/
def lx_m_greater : List (Nat × Nat) := []
set_option maxRecDepth 100000 in
theorem ok_m_greater : (tb_m_greater).all (fun q => okB 49 q.1 q.2 (lxf lx_m_greater q.1)) = true := by decide +kernel
def lx_m_absolute : List (Nat × Nat) := []
set_option maxRecDepth 100000 in
theorem ok_m_absolute : (tb_m_absolute).all (fun q => okB 50 q.1 q.2 (lxf lx_m_absolute q.1)) = true := by decide +kernel
def lx_m_octet : List (Nat × Nat) := [(1, 1569)]
set_option maxRecDepth 100000 in
theorem ok_m_octet : (tb_m_octet).all (fun q => okB 51 q.1 q.2 (lxf lx_m_octet q.1)) = true := by decide +kernel
def lx_m_clears : List (Nat × Nat) := [(9, 1575), (22, 1575), (29, 1575), (36, 1575), (43, 1575), (51, 1575), (63, 1564)]
set_option maxRecDepth 100000 in
theorem ok_m_clears : (tb_m_clears).all (fun q => okB 52 q.1 q.2 (lxf lx_m_clears q.1)) = true := by decide +kernel
def lx_m_freezes : List (Nat × Nat) := [(1, 1575), (8, 1575), (25, 1575)]
set_option maxRecDepth 100000 in
theorem ok_m_freezes : (tb_m_freezes).all (fun q => okB 53 q.1 q.2 (lxf lx_m_freezes q.1)) = true := by decide +kernel
def lx_m_peek : List (Nat × Nat) := [(1, 1572), (5, 1571), (12, 1569), (16, 1572)]
set_option maxRecDepth 100000 in
theorem ok_m_peek : (tb_m_peek).all (fun q => okB 54 q.1 q.2 (lxf lx_m_peek q.1)) = true := by decide +kernel
def lx_m_isSmall : List (Nat × Nat) := []
set_option maxRecDepth 100000 in
theorem ok_m_isSmall : (tb_m_isSmall).all (fun q => okB 55 q.1 q.2 (lxf lx_m_isSmall q.1)) = true := by decide +kernel
def lx_m_isDigit : List (Nat × Nat) := []
set_option maxRecDepth 100000 in
theorem ok_m_isDigit : (tb_m_isDigit).all (fun q => okB 56 q.1 q.2 (lxf lx_m_isDigit q.1)) = true := by decide +kernel
def lx_m_next : List (Nat × Nat) := [(1, 1728), (10, 1728), (20, 1572), (25, 1572), (33, 1572), (36, 1580), (41, 1581), (45, 1571), (49, 1573), (56, 1572), (60, 1573), (68, 1573), (71, 1580), (76, 1579), (81, 1728), (91, 1579), (96, 1732), (103, 1735), (145, 1579), (150, 1582), (155, 1572), (160, 1572), (165, 1732), (173, 1585), (178, 1582), (182, 1728), (185, 1732), (192, 1728), (195, 1735), (206, 1728), (209, 1732), (223, 1581), (233, 1585), (240, 1728), (245, 1585), (249, 1581), (260, 1582), (265, 1728), (272, 1582), (277, 1581), (282, 1581), (287, 1572), (292, 1572), (304, 1581), (333, 1579)]
set_option maxRecDepth 100000 in
theorem ok_m_next : (tb_m_next).all (fun q => okB 57 q.1 q.2 (lxf lx_m_next q.1)) = true := by decide +kernel
def lx_m_bad : List (Nat × Nat) := [(2, 1583), (7, 1580), (10, 1584)]
set_option maxRecDepth 100000 in
theorem ok_m_bad : (tb_m_bad).all (fun q => okB 58 q.1 q.2 (lxf lx_m_bad q.1)) = true := by decide +kernel
def lx_m_isWord : List (Nat × Nat) := [(1, 1579), (9, 1585)]
set_option maxRecDepth 100000 in
theorem ok_m_isWord : (tb_m_isWord).all (fun q => okB 59 q.1 q.2 (lxf lx_m_isWord q.1)) = true := by decide +kernel
def lx_m_isSign : List (Nat × Nat) := [(1, 1579), (9, 1582)]
set_option maxRecDepth 100000 in
theorem ok_m_isSign : (tb_m_isSign).all (fun q => okB 60 q.1 q.2 (lxf lx_m_isSign q.1)) = true := by decide +kernel
def lx_m_sign : List (Nat × Nat) := [(2, 1792), (10, 1757), (15, 1724)]
set_option maxRecDepth 100000 in
theorem ok_m_sign : (tb_m_sign).all (fun q => okB 61 q.1 q.2 (lxf lx_m_sign q.1)) = true := by decide +kernel
def lx_m_isName : List (Nat × Nat) := [(1, 1579), (27, 1585), (31, 1578)]
set_option maxRecDepth 100000 in
theorem ok_m_isName : (tb_m_isName).all (fun q => okB 62 q.1 q.2 (lxf lx_m_isName q.1)) = true := by decide +kernel
def lx_m_takes : List (Nat × Nat) := [(1, 1579), (10, 1757), (15, 1582), (20, 1765), (28, 1757), (34, 1582), (37, 1586), (41, 1724)]
set_option maxRecDepth 100000 in
theorem ok_m_takes : (tb_m_takes).all (fun q => okB 63 q.1 q.2 (lxf lx_m_takes q.1)) = true := by decide +kernel
def lx_m_puts : List (Nat × Nat) := [(3, 1761), (12, 1575), (17, 1586)]
set_option maxRecDepth 100000 in
theorem ok_m_puts : (tb_m_puts).all (fun q => okB 64 q.1 q.2 (lxf lx_m_puts q.1)) = true := by decide +kernel
def lx_m_seek : List (Nat × Nat) := [(8, 1577), (16, 1585)]
set_option maxRecDepth 100000 in
theorem ok_m_seek : (tb_m_seek).all (fun q => okB 65 q.1 q.2 (lxf lx_m_seek q.1)) = true := by decide +kernel
def lx_m_looksAt : List (Nat × Nat) := [(1, 1780), (9, 1757), (17, 1784), (20, 1586), (24, 1586), (32, 1757)]
set_option maxRecDepth 100000 in
theorem ok_m_looksAt : (tb_m_looksAt).all (fun q => okB 66 q.1 q.2 (lxf lx_m_looksAt q.1)) = true := by decide +kernel
def lx_m_once : List (Nat × Nat) := [(1, 1588), (5, 1754), (13, 1757), (19, 1588), (26, 1588), (30, 1724)]
set_option maxRecDepth 100000 in
theorem ok_m_once : (tb_m_once).all (fun q => okB 67 q.1 q.2 (lxf lx_m_once q.1)) = true := by decide +kernel
def lx_m_readLine : List (Nat × Nat) := [(1, 1534), (4, 1742), (11, 1746), (16, 1535), (19, 1742), (26, 1768), (31, 1536), (34, 1742), (41, 1776), (46, 1537), (49, 1742), (57, 1750), (68, 1772), (78, 1772), (91, 1538), (94, 1742), (102, 1750), (113, 1772), (126, 1539), (129, 1742), (137, 1750), (149, 1772), (162, 1540), (165, 1742), (173, 1750), (185, 1772), (201, 1757)]
set_option maxRecDepth 100000 in
theorem ok_m_readLine : (tb_m_readLine).all (fun q => okB 68 q.1 q.2 (lxf lx_m_readLine q.1)) = true := by decide +kernel
def lx_m_readLake : List (Nat × Nat) := [(1, 1589), (10, 1575), (20, 1750), (28, 1757), (36, 1761), (45, 1586), (53, 1761), (62, 1586), (70, 1761), (82, 1586), (85, 1564)]
set_option maxRecDepth 100000 in
theorem ok_m_readLake : (tb_m_readLake).all (fun q => okB 69 q.1 q.2 (lxf lx_m_readLake q.1)) = true := by decide +kernel
def lx_m_readIce : List (Nat × Nat) := [(1, 1575), (11, 1757), (16, 1724), (22, 1575), (29, 1761), (38, 1586), (43, 1579), (52, 1757), (57, 1582), (61, 1575), (71, 1757), (78, 1582), (86, 1589), (100, 1757), (106, 1589), (113, 1589), (117, 1724), (128, 1772)]
set_option maxRecDepth 100000 in
theorem ok_m_readIce : (tb_m_readIce).all (fun q => okB 70 q.1 q.2 (lxf lx_m_readIce q.1)) = true := by decide +kernel
def lx_m_readPerson : List (Nat × Nat) := [(1, 1575), (15, 1757), (20, 1724), (24, 1780), (32, 1757), (40, 1784), (48, 1757), (53, 1577), (61, 1585), (66, 1724), (72, 1575), (79, 1761), (88, 1586), (95, 1575), (102, 1761), (113, 1586), (121, 1579), (130, 1757), (135, 1582), (140, 1765), (148, 1757), (153, 1582), (170, 1575), (184, 1575), (209, 1575), (222, 1757), (227, 1575), (237, 1575), (245, 1582), (250, 1724), (261, 1772), (270, 1575)]
set_option maxRecDepth 100000 in
theorem ok_m_readPerson : (tb_m_readPerson).all (fun q => okB 71 q.1 q.2 (lxf lx_m_readPerson q.1)) = true := by decide +kernel
def lx_m_lake : List (Nat × Nat) := [(2, 1568), (9, 1720), (14, 1583), (19, 1587), (24, 1588), (29, 1589), (33, 1560), (37, 1724), (41, 1579), (48, 1738), (57, 1788), (65, 1584), (72, 1587), (77, 1587), (93, 1574), (104, 1575), (129, 1574), (137, 1574), (161, 1577), (166, 1577), (176, 1574), (185, 1574), (195, 1574), (204, 1574), (221, 1593), (225, 1587)]
set_option maxRecDepth 100000 in
theorem ok_m_lake : (tb_m_lake).all (fun q => okB 72 q.1 q.2 (lxf lx_m_lake q.1)) = true := by decide +kernel
def lx_m_fault : List (Nat × Nat) := [(2, 1568), (6, 1583)]
set_option maxRecDepth 100000 in
theorem ok_m_fault : (tb_m_fault).all (fun q => okB 73 q.1 q.2 (lxf lx_m_fault q.1)) = true := by decide +kernel
def lx_m_isPerson : List (Nat × Nat) := [(3, 1574), (10, 1765)]
set_option maxRecDepth 100000 in
theorem ok_m_isPerson : (tb_m_isPerson).all (fun q => okB 74 q.1 q.2 (lxf lx_m_isPerson q.1)) = true := by decide +kernel
def lx_m_isCell : List (Nat × Nat) := [(3, 1574), (10, 1765), (19, 1574), (26, 1765)]
set_option maxRecDepth 100000 in
theorem ok_m_isCell : (tb_m_isCell).all (fun q => okB 75 q.1 q.2 (lxf lx_m_isCell q.1)) = true := by decide +kernel
def lx_m_hasFallen : List (Nat × Nat) := [(1, 1574), (8, 1754)]
set_option maxRecDepth 100000 in
theorem ok_m_hasFallen : (tb_m_hasFallen).all (fun q => okB 76 q.1 q.2 (lxf lx_m_hasFallen q.1)) = true := by decide +kernel
def lx_m_apart : List (Nat × Nat) := [(9, 1858), (21, 1858)]
set_option maxRecDepth 100000 in
theorem ok_m_apart : (tb_m_apart).all (fun q => okB 77 q.1 q.2 (lxf lx_m_apart q.1)) = true := by decide +kernel
def lx_m_personsOn : List (Nat × Nat) := [(6, 1574), (16, 1574), (31, 1820)]
set_option maxRecDepth 100000 in
theorem ok_m_personsOn : (tb_m_personsOn).all (fun q => okB 78 q.1 q.2 (lxf lx_m_personsOn q.1)) = true := by decide +kernel
def lx_m_loadsOn : List (Nat × Nat) := [(2, 1840), (14, 1574), (26, 1754), (33, 1574)]
set_option maxRecDepth 100000 in
theorem ok_m_loadsOn : (tb_m_loadsOn).all (fun q => okB 79 q.1 q.2 (lxf lx_m_loadsOn q.1)) = true := by decide +kernel
def lx_m_beside : List (Nat × Nat) := [(54, 1828)]
set_option maxRecDepth 100000 in
theorem ok_m_beside : (tb_m_beside).all (fun q => okB 80 q.1 q.2 (lxf lx_m_beside q.1)) = true := by decide +kernel
def lx_m_lacks : List (Nat × Nat) := [(3, 1836), (7, 1574), (17, 1574), (26, 1844)]
set_option maxRecDepth 100000 in
theorem ok_m_lacks : (tb_m_lacks).all (fun q => okB 81 q.1 q.2 (lxf lx_m_lacks q.1)) = true := by decide +kernel
def lx_m_iceIfSworn : List (Nat × Nat) := [(1, 1574), (11, 1855), (15, 1574), (25, 1574), (34, 1574), (40, 1844), (47, 1574)]
set_option maxRecDepth 100000 in
theorem ok_m_iceIfSworn : (tb_m_iceIfSworn).all (fun q => okB 82 q.1 q.2 (lxf lx_m_iceIfSworn q.1)) = true := by decide +kernel
def lx_m_dangerOf : List (Nat × Nat) := [(6, 1574), (17, 1820), (25, 1820), (33, 1574), (42, 1836), (48, 1574), (57, 1851)]
set_option maxRecDepth 100000 in
theorem ok_m_dangerOf : (tb_m_dangerOf).all (fun q => okB 83 q.1 q.2 (lxf lx_m_dangerOf q.1)) = true := by decide +kernel
def lx_m_whyGo : List (Nat × Nat) := [(2, 1820), (12, 1574), (22, 1824), (37, 1832)]
set_option maxRecDepth 100000 in
theorem ok_m_whyGo : (tb_m_whyGo).all (fun q => okB 84 q.1 q.2 (lxf lx_m_whyGo q.1)) = true := by decide +kernel
def lx_m_sidesOf : List (Nat × Nat) := [(13, 1816)]
set_option maxRecDepth 100000 in
theorem ok_m_sidesOf : (tb_m_sidesOf).all (fun q => okB 85 q.1 q.2 (lxf lx_m_sidesOf q.1)) = true := by decide +kernel
def lx_m_allIce : List (Nat × Nat) := [(12, 1574)]
set_option maxRecDepth 100000 in
theorem ok_m_allIce : (tb_m_allIce).all (fun q => okB 86 q.1 q.2 (lxf lx_m_allIce q.1)) = true := by decide +kernel
def lx_m_person : List (Nat × Nat) := [(3, 1804), (13, 1765), (24, 1808), (77, 1574), (91, 1574), (105, 1574), (115, 1574), (126, 1574), (138, 1574), (150, 1812), (156, 1847)]
set_option maxRecDepth 100000 in
theorem ok_m_person : (tb_m_person).all (fun q => okB 87 q.1 q.2 (lxf lx_m_person q.1)) = true := by decide +kernel
def lx_m_cell : List (Nat × Nat) := [(2, 1568), (8, 1828), (29, 1574), (49, 1836), (63, 1840)]
set_option maxRecDepth 100000 in
theorem ok_m_cell : (tb_m_cell).all (fun q => okB 88 q.1 q.2 (lxf lx_m_cell q.1)) = true := by decide +kernel
def lx_m_now : List (Nat × Nat) := [(2, 1568), (25, 1828), (32, 1574), (105, 1574), (113, 1574), (121, 1574), (129, 1869), (136, 1574), (144, 1574), (152, 1574)]
set_option maxRecDepth 100000 in
theorem ok_m_now : (tb_m_now).all (fun q => okB 89 q.1 q.2 (lxf lx_m_now q.1)) = true := by decide +kernel
def lx_m_sinks : List (Nat × Nat) := [(6, 1574), (17, 1820), (25, 1574), (34, 1836), (38, 1574), (44, 1574), (74, 1574)]
set_option maxRecDepth 100000 in
theorem ok_m_sinks : (tb_m_sinks).all (fun q => okB 90 q.1 q.2 (lxf lx_m_sinks q.1)) = true := by decide +kernel
def lx_m_whyBow : List (Nat × Nat) := [(2, 1820), (13, 1574), (20, 1754)]
set_option maxRecDepth 100000 in
theorem ok_m_whyBow : (tb_m_whyBow).all (fun q => okB 91 q.1 q.2 (lxf lx_m_whyBow q.1)) = true := by decide +kernel
def lx_m_bends : List (Nat × Nat) := [(1, 1574), (7, 1574), (20, 1574), (26, 1574), (39, 1893), (44, 1574), (54, 1574), (65, 1844), (70, 1574), (83, 1574)]
set_option maxRecDepth 100000 in
theorem ok_m_bends : (tb_m_bends).all (fun q => okB 92 q.1 q.2 (lxf lx_m_bends q.1)) = true := by decide +kernel
def lx_m_whyPraise : List (Nat × Nat) := [(11, 1820), (19, 1820), (30, 1574), (40, 1574), (49, 1855)]
set_option maxRecDepth 100000 in
theorem ok_m_whyPraise : (tb_m_whyPraise).all (fun q => okB 93 q.1 q.2 (lxf lx_m_whyPraise q.1)) = true := by decide +kernel
def lx_m_flatters : List (Nat × Nat) := [(1, 1574), (11, 1574), (22, 1844), (27, 1574), (41, 1574), (52, 1574), (62, 1574), (73, 1574), (79, 1574), (91, 1574), (97, 1574), (110, 1844), (115, 1908)]
set_option maxRecDepth 100000 in
theorem ok_m_flatters : (tb_m_flatters).all (fun q => okB 94 q.1 q.2 (lxf lx_m_flatters q.1)) = true := by decide +kernel
def lx_m_curses : List (Nat × Nat) := [(9, 1574), (19, 1851), (30, 1574), (41, 1574), (52, 1908)]
set_option maxRecDepth 100000 in
theorem ok_m_curses : (tb_m_curses).all (fun q => okB 95 q.1 q.2 (lxf lx_m_curses q.1)) = true := by decide +kernel
def lx_m_hour : List (Nat × Nat) := [(2, 1590), (9, 1574), (19, 1820), (34, 1574), (50, 1820), (57, 1574), (67, 1574), (76, 1855), (97, 1574), (108, 1574), (119, 1893), (124, 1574), (134, 1574), (147, 1590), (154, 1590), (159, 1916), (169, 1574), (180, 1574), (196, 1574), (213, 1574), (220, 1574), (248, 1828), (255, 1574), (265, 1574), (275, 1893)]
set_option maxRecDepth 100000 in
theorem ok_m_hour : (tb_m_hour).all (fun q => okB 96 q.1 q.2 (lxf lx_m_hour q.1)) = true := by decide +kernel
def lx_m_goesOn : List (Nat × Nat) := [(8, 1574), (21, 1928)]
set_option maxRecDepth 100000 in
theorem ok_m_goesOn : (tb_m_goesOn).all (fun q => okB 97 q.1 q.2 (lxf lx_m_goesOn q.1)) = true := by decide +kernel
