/-! Printed by wip/whole/gen_links.py, further. -/
def lx_m_go : List (Nat × Nat) := [(2, 1568), (7, 1804), (16, 1765), (27, 1816), (38, 1877), (42, 1574), (52, 1574), (62, 1824)]
set_option maxRecDepth 100000 in
theorem ok_m_go : (tb_m_go).all (fun q => okB 98 q.1 q.2 (lxf lx_m_go q.1)) = true := by decide +kernel
def lx_m_bow : List (Nat × Nat) := [(2, 1568), (7, 1804), (17, 1885), (28, 1877), (33, 1889)]
set_option maxRecDepth 100000 in
theorem ok_m_bow : (tb_m_bow).all (fun q => okB 99 q.1 q.2 (lxf lx_m_bow q.1)) = true := by decide +kernel
def lx_m_praise : List (Nat × Nat) := [(2, 1568), (7, 1804), (15, 1804), (26, 1900), (37, 1877), (42, 1904)]
set_option maxRecDepth 100000 in
theorem ok_m_praise : (tb_m_praise).all (fun q => okB 100 q.1 q.2 (lxf lx_m_praise q.1)) = true := by decide +kernel
def lx_m_swear : List (Nat × Nat) := [(2, 1568), (7, 1804), (17, 1820), (26, 1877), (31, 1916)]
set_option maxRecDepth 100000 in
theorem ok_m_swear : (tb_m_swear).all (fun q => okB 101 q.1 q.2 (lxf lx_m_swear q.1)) = true := by decide +kernel
def lx_m_hours : List (Nat × Nat) := [(2, 1568), (9, 1765), (18, 1574), (33, 1877), (38, 1924)]
set_option maxRecDepth 100000 in
theorem ok_m_hours : (tb_m_hours).all (fun q => okB 102 q.1 q.2 (lxf lx_m_hours q.1)) = true := by decide +kernel
def lx_m_keep : List (Nat × Nat) := [(1, 1593), (19, 1591), (24, 1591), (42, 1593), (54, 1591), (60, 1593), (67, 1574), (84, 1593), (89, 1593)]
set_option maxRecDepth 100000 in
theorem ok_m_keep : (tb_m_keep).all (fun q => okB 103 q.1 q.2 (lxf lx_m_keep q.1)) = true := by decide +kernel
def lx_m_undo : List (Nat × Nat) := [(2, 1568), (6, 1593), (16, 1593), (21, 1593), (33, 1574), (41, 1591), (47, 1593), (62, 1593)]
set_option maxRecDepth 100000 in
theorem ok_m_undo : (tb_m_undo).all (fun q => okB 104 q.1 q.2 (lxf lx_m_undo q.1)) = true := by decide +kernel
def lx_m_tries : List (Nat × Nat) := [(9, 1592), (14, 1574)]
set_option maxRecDepth 100000 in
theorem ok_m_tries : (tb_m_tries).all (fun q => okB 105 q.1 q.2 (lxf lx_m_tries q.1)) = true := by decide +kernel
def lx_m_back : List (Nat × Nat) := [(9, 1574), (17, 1592)]
set_option maxRecDepth 100000 in
theorem ok_m_back : (tb_m_back).all (fun q => okB 106 q.1 q.2 (lxf lx_m_back q.1)) = true := by decide +kernel
def lx_m_isOpen : List (Nat × Nat) := [(2, 1574), (17, 1832)]
set_option maxRecDepth 100000 in
theorem ok_m_isOpen : (tb_m_isOpen).all (fun q => okB 107 q.1 q.2 (lxf lx_m_isOpen q.1)) = true := by decide +kernel
def lx_m_laysSteps : List (Nat × Nat) := [(9, 1594), (22, 1944), (35, 1945), (75, 1828), (86, 1824), (100, 1945), (107, 1594), (116, 1594), (129, 1594), (135, 1594)]
set_option maxRecDepth 100000 in
theorem ok_m_laysSteps : (tb_m_laysSteps).all (fun q => okB 108 q.1 q.2 (lxf lx_m_laysSteps q.1)) = true := by decide +kernel
def lx_m_way : List (Nat × Nat) := [(2, 1568), (7, 1804), (16, 1828), (24, 1820), (40, 1940), (44, 1574), (56, 1594), (66, 1944), (77, 1598), (98, 1824), (111, 1824), (114, 1945), (121, 1594), (129, 1824), (150, 1597), (163, 1824)]
set_option maxRecDepth 100000 in
theorem ok_m_way : (tb_m_way).all (fun q => okB 109 q.1 q.2 (lxf lx_m_way q.1)) = true := by decide +kernel
def lx_m_wayAt : List (Nat × Nat) := [(2, 1568), (8, 1598), (13, 1765), (20, 1597)]
set_option maxRecDepth 100000 in
theorem ok_m_wayAt : (tb_m_wayAt).all (fun q => okB 110 q.1 q.2 (lxf lx_m_wayAt q.1)) = true := by decide +kernel
def lx_m_bows : List (Nat × Nat) := [(2, 1568), (7, 1804), (16, 1828), (24, 1820), (43, 1595), (51, 1574), (67, 1944), (108, 1595), (114, 1944), (125, 1824), (138, 1836), (142, 1574), (157, 1595), (167, 1832), (172, 1595), (185, 1595), (191, 1595), (201, 1832), (225, 1595), (235, 1944), (246, 1595)]
set_option maxRecDepth 100000 in
theorem ok_m_bows : (tb_m_bows).all (fun q => okB 111 q.1 q.2 (lxf lx_m_bows q.1)) = true := by decide +kernel
def lx_m_firm : List (Nat × Nat) := [(2, 1568), (7, 1804), (16, 1828), (24, 1820), (33, 1574), (56, 1574), (77, 1596), (89, 1944), (134, 1596), (148, 1824), (169, 1832), (176, 1596), (183, 1574), (192, 1893), (196, 1596), (209, 1596), (215, 1596), (222, 1574), (231, 1893), (254, 1596)]
set_option maxRecDepth 100000 in
theorem ok_m_firm : (tb_m_firm).all (fun q => okB 112 q.1 q.2 (lxf lx_m_firm q.1)) = true := by decide +kernel
def lx_m_hoursTill : List (Nat × Nat) := [(1, 1969), (10, 1820), (33, 1574), (50, 1928), (59, 1820), (69, 1590), (73, 1754), (89, 1973)]
set_option maxRecDepth 100000 in
theorem ok_m_hoursTill : (tb_m_hoursTill).all (fun q => okB 113 q.1 q.2 (lxf lx_m_hoursTill q.1)) = true := by decide +kernel
def lx_m_swears : List (Nat × Nat) := [(2, 1568), (7, 1804), (16, 1965)]
set_option maxRecDepth 100000 in
theorem ok_m_swears : (tb_m_swears).all (fun q => okB 114 q.1 q.2 (lxf lx_m_swears q.1)) = true := by decide +kernel
def lx_m_falls : List (Nat × Nat) := [(2, 1568), (7, 1804), (16, 1965)]
set_option maxRecDepth 100000 in
theorem ok_m_falls : (tb_m_falls).all (fun q => okB 115 q.1 q.2 (lxf lx_m_falls q.1)) = true := by decide +kernel
def lx_m_fair : List (Nat × Nat) := [(2, 1568), (11, 1574), (22, 1820), (33, 1574), (51, 1944), (76, 1828), (83, 1574), (108, 1574), (121, 1820), (132, 1574), (144, 1855)]
set_option maxRecDepth 100000 in
theorem ok_m_fair : (tb_m_fair).all (fun q => okB 116 q.1 q.2 (lxf lx_m_fair q.1)) = true := by decide +kernel
def lx_m_isSwore : List (Nat × Nat) := [(2, 1820), (18, 1571), (36, 1989), (42, 1989), (46, 1851), (53, 1989)]
set_option maxRecDepth 100000 in
theorem ok_m_isSwore : (tb_m_isSwore).all (fun q => okB 117 q.1 q.2 (lxf lx_m_isSwore q.1)) = true := by decide +kernel
def lx_m_leftBy : List (Nat × Nat) := [(21, 1574), (34, 1754), (44, 1851), (69, 1844)]
set_option maxRecDepth 100000 in
theorem ok_m_leftBy : (tb_m_leftBy).all (fun q => okB 118 q.1 q.2 (lxf lx_m_leftBy q.1)) = true := by decide +kernel
def lx_m_swore : List (Nat × Nat) := [(2, 1568), (9, 1720), (13, 1571), (19, 1765), (26, 1571), (40, 1571), (49, 1989), (56, 1989), (59, 1828), (79, 1574), (90, 1993), (119, 1600), (122, 1944), (143, 1828), (152, 1997), (165, 1997), (171, 1599)]
set_option maxRecDepth 100000 in
theorem ok_m_swore : (tb_m_swore).all (fun q => okB 119 q.1 q.2 (lxf lx_m_swore q.1)) = true := by decide +kernel
def lx_m_ask : List (Nat × Nat) := [(2, 1568), (6, 1600), (13, 1599)]
set_option maxRecDepth 100000 in
theorem ok_m_ask : (tb_m_ask).all (fun q => okB 120 q.1 q.2 (lxf lx_m_ask q.1)) = true := by decide +kernel
def lx_m_stands : List (Nat × Nat) := [(2, 1568), (7, 1804), (15, 1820), (25, 1574), (32, 1574), (42, 1844), (46, 1574), (52, 1574), (66, 1574), (75, 1836)]
set_option maxRecDepth 100000 in
theorem ok_m_stands : (tb_m_stands).all (fun q => okB 121 q.1 q.2 (lxf lx_m_stands q.1)) = true := by decide +kernel
def lx_m_mean : List (Nat × Nat) := [(4, 1765), (15, 1808), (24, 1574), (30, 1574), (38, 1869), (64, 1869), (71, 1574), (77, 1574)]
set_option maxRecDepth 100000 in
theorem ok_m_mean : (tb_m_mean).all (fun q => okB 122 q.1 q.2 (lxf lx_m_mean q.1)) = true := by decide +kernel
def lx_m_lays : List (Nat × Nat) := [(1, 1601), (5, 1602), (13, 1602), (18, 1602)]
set_option maxRecDepth 100000 in
theorem ok_m_lays : (tb_m_lays).all (fun q => okB 123 q.1 q.2 (lxf lx_m_lays q.1)) = true := by decide +kernel
def lx_m_spells : List (Nat × Nat) := [(10, 2021), (23, 2021), (28, 2022)]
set_option maxRecDepth 100000 in
theorem ok_m_spells : (tb_m_spells).all (fun q => okB 124 q.1 q.2 (lxf lx_m_spells q.1)) = true := by decide +kernel
def lx_m_says : List (Nat × Nat) := [(3, 2022), (8, 2017)]
set_option maxRecDepth 100000 in
theorem ok_m_says : (tb_m_says).all (fun q => okB 125 q.1 q.2 (lxf lx_m_says q.1)) = true := by decide +kernel
def lx_m_digit : List (Nat × Nat) := [(3, 2022), (11, 2022)]
set_option maxRecDepth 100000 in
theorem ok_m_digit : (tb_m_digit).all (fun q => okB 126 q.1 q.2 (lxf lx_m_digit q.1)) = true := by decide +kernel
def lx_m_line : List (Nat × Nat) := [(2, 1568), (7, 1804), (17, 1602), (22, 1577), (27, 2017), (32, 1820), (39, 2026), (42, 2027), (49, 2031), (52, 2027), (57, 1574), (69, 2032), (74, 1574), (86, 2032), (90, 2036), (93, 2027), (98, 1574), (104, 1574), (115, 2032), (119, 1574), (126, 1754), (133, 1553), (136, 2027), (140, 1602)]
set_option maxRecDepth 100000 in
theorem ok_m_line : (tb_m_line).all (fun q => okB 127 q.1 q.2 (lxf lx_m_line q.1)) = true := by decide +kernel
def lx_m_byteAt : List (Nat × Nat) := [(2, 1568), (8, 1602), (13, 1765), (20, 1601)]
set_option maxRecDepth 100000 in
theorem ok_m_byteAt : (tb_m_byteAt).all (fun q => okB 128 q.1 q.2 (lxf lx_m_byteAt q.1)) = true := by decide +kernel
def lx_m_draw : List (Nat × Nat) := [(2, 1603), (5, 2057), (13, 1603), (17, 1603)]
set_option maxRecDepth 100000 in
theorem ok_m_draw : (tb_m_draw).all (fun q => okB 129 q.1 q.2 (lxf lx_m_draw q.1)) = true := by decide +kernel
def lx_m_drawPerson : List (Nat × Nat) := [(3, 2053), (15, 1816), (22, 1574), (32, 1574), (42, 1824), (56, 1885), (64, 1889), (77, 1574), (82, 2053), (89, 1900), (97, 1904), (111, 2053), (119, 1820), (127, 1916)]
set_option maxRecDepth 100000 in
theorem ok_m_drawPerson : (tb_m_drawPerson).all (fun q => okB 130 q.1 q.2 (lxf lx_m_drawPerson q.1)) = true := by decide +kernel
def lx_m_draws : List (Nat × Nat) := [(2, 1603), (13, 1574), (31, 1574), (42, 2049), (52, 1928)]
set_option maxRecDepth 100000 in
theorem ok_m_draws : (tb_m_draws).all (fun q => okB 131 q.1 q.2 (lxf lx_m_draws q.1)) = true := by decide +kernel
def lx_m_drawn : List (Nat × Nat) := [(2, 1568), (9, 1765), (18, 1574), (31, 1877), (37, 2045)]
set_option maxRecDepth 100000 in
theorem ok_m_drawn : (tb_m_drawn).all (fun q => okB 132 q.1 q.2 (lxf lx_m_drawn q.1)) = true := by decide +kernel
def lx_m_odds : List (Nat × Nat) := [(2, 1568), (7, 1804), (17, 1765), (26, 1969), (48, 2045), (56, 1820), (71, 1973)]
set_option maxRecDepth 100000 in
theorem ok_m_odds : (tb_m_odds).all (fun q => okB 133 q.1 q.2 (lxf lx_m_odds q.1)) = true := by decide +kernel
def lx_m_bookLine : List (Nat × Nat) := [(2, 1604), (8, 1548), (11, 1742), (22, 1574), (27, 2070), (36, 1604), (46, 1757), (51, 1586), (56, 1724), (64, 1576), (74, 1761), (83, 1576), (90, 1586), (97, 1576), (106, 1541), (109, 1742), (120, 1542), (123, 1742), (134, 1543), (137, 1742), (148, 1544), (151, 1742), (174, 1545), (177, 1742), (188, 1546), (191, 1742), (202, 1547), (205, 1742), (225, 1757), (230, 1724), (234, 1576), (242, 1576), (262, 1574), (267, 2070), (276, 1576), (283, 1586), (288, 1724)]
set_option maxRecDepth 100000 in
theorem ok_m_bookLine : (tb_m_bookLine).all (fun q => okB 134 q.1 q.2 (lxf lx_m_bookLine q.1)) = true := by decide +kernel
def lx_m_does : List (Nat × Nat) := [(39, 1816), (50, 1574), (60, 1574), (70, 1824), (79, 1885), (91, 1889), (100, 1900), (112, 1904), (120, 1820), (140, 1916), (147, 1574), (175, 1924)]
set_option maxRecDepth 100000 in
theorem ok_m_does : (tb_m_does).all (fun q => okB 135 q.1 q.2 (lxf lx_m_does q.1)) = true := by decide +kernel
def lx_m_book : List (Nat × Nat) := [(2, 1568), (8, 1765), (22, 1720), (27, 1583), (32, 1604), (36, 1724), (40, 1579), (47, 2066), (56, 1788), (65, 1584), (72, 1604), (77, 1604), (84, 1969), (95, 1605), (113, 1604), (124, 1605), (130, 1576), (138, 1576), (148, 1576), (157, 2074), (162, 1605), (176, 1605), (192, 1605), (197, 1574), (205, 1605), (210, 1574), (219, 1606), (228, 1605), (237, 1877), (249, 1591), (255, 1593), (264, 1592), (281, 1973)]
set_option maxRecDepth 100000 in
theorem ok_m_book : (tb_m_book).all (fun q => okB 136 q.1 q.2 (lxf lx_m_book q.1)) = true := by decide +kernel
def lx_m_told : List (Nat × Nat) := [(2, 1568), (6, 1606), (15, 1765), (22, 1605)]
set_option maxRecDepth 100000 in
theorem ok_m_told : (tb_m_told).all (fun q => okB 137 q.1 q.2 (lxf lx_m_told q.1)) = true := by decide +kernel
def lx_m_code : List (Nat × Nat) := [(1, 1576), (6, 1608), (13, 1576), (18, 1608), (27, 1576), (32, 1608), (42, 1608), (47, 1608)]
set_option maxRecDepth 100000 in
theorem ok_m_code : (tb_m_code).all (fun q => okB 138 q.1 q.2 (lxf lx_m_code q.1)) = true := by decide +kernel
def lx_m_joins : List (Nat × Nat) := [(1, 1610), (8, 1607), (12, 1610), (24, 1607), (28, 1610), (47, 1610), (52, 1610), (57, 1607), (61, 1610), (67, 2090)]
set_option maxRecDepth 100000 in
theorem ok_m_joins : (tb_m_joins).all (fun q => okB 139 q.1 q.2 (lxf lx_m_joins q.1)) = true := by decide +kernel
def lx_m_nots : List (Nat × Nat) := [(1, 1610), (8, 1607), (12, 1610), (25, 1610), (30, 1610), (35, 1611), (40, 1611), (48, 2090)]
set_option maxRecDepth 100000 in
theorem ok_m_nots : (tb_m_nots).all (fun q => okB 140 q.1 q.2 (lxf lx_m_nots q.1)) = true := by decide +kernel
def lx_m_leafOf : List (Nat × Nat) := [(1, 1552), (4, 1742), (15, 1553), (18, 1742), (29, 1554), (32, 1742), (43, 1555), (46, 1742), (57, 1556), (60, 1742), (71, 1557), (74, 1742), (85, 1535), (88, 1742), (100, 1558), (103, 1742), (115, 1559), (118, 1742)]
set_option maxRecDepth 100000 in
theorem ok_m_leafOf : (tb_m_leafOf).all (fun q => okB 141 q.1 q.2 (lxf lx_m_leafOf q.1)) = true := by decide +kernel
def lx_m_operand : List (Nat × Nat) := [(1, 1551), (4, 1742), (11, 1792), (16, 2106), (34, 1757), (39, 1609), (48, 1611), (58, 1757), (64, 1609), (69, 1609), (73, 1724), (85, 1607), (89, 1610), (106, 1610), (111, 1610), (116, 1611), (121, 1611), (128, 1612), (140, 2090), (153, 1574), (158, 2070), (170, 1586), (173, 2090), (177, 1724), (183, 1579), (191, 1582), (200, 1582), (210, 1757), (215, 1582), (221, 1724), (225, 1579), (234, 1757), (243, 1582), (246, 2090), (250, 1724)]
set_option maxRecDepth 100000 in
theorem ok_m_operand : (tb_m_operand).all (fun q => okB 142 q.1 q.2 (lxf lx_m_operand q.1)) = true := by decide +kernel
def lx_m_behind : List (Nat × Nat) := [(1, 2086), (5, 1550), (8, 1742), (15, 1549), (18, 1742), (26, 1550), (29, 1742), (42, 2094), (46, 1607), (50, 1610), (54, 1550), (57, 1742), (73, 1610), (78, 1610), (83, 1612), (87, 1724), (95, 2094), (101, 1792), (108, 1610), (116, 1757), (122, 1610), (127, 1610), (132, 1611), (137, 1611), (141, 1724)]
set_option maxRecDepth 100000 in
theorem ok_m_behind : (tb_m_behind).all (fun q => okB 143 q.1 q.2 (lxf lx_m_behind q.1)) = true := by decide +kernel
def lx_m_sentence : List (Nat × Nat) := [(2, 1568), (9, 1720), (14, 1583), (19, 1608), (24, 1609), (29, 1610), (34, 1611), (39, 1612), (43, 1724), (53, 1612), (60, 1579), (67, 2086), (73, 2094), (77, 1610), (85, 1757), (91, 1584), (102, 1612), (109, 2098), (119, 2102), (127, 1584), (133, 1574), (140, 1608), (149, 1608), (157, 1574), (166, 1576), (179, 1609)]
set_option maxRecDepth 100000 in
theorem ok_m_sentence : (tb_m_sentence).all (fun q => okB 144 q.1 q.2 (lxf lx_m_sentence q.1)) = true := by decide +kernel
def lx_m_isLeaf : List (Nat × Nat) := [(34, 1820), (39, 1574), (46, 1754), (51, 1574), (61, 1574), (71, 1855), (86, 1847), (91, 1754), (101, 1574), (119, 1574), (137, 1574), (143, 1574), (164, 1574)]
set_option maxRecDepth 100000 in
theorem ok_m_isLeaf : (tb_m_isLeaf).all (fun q => okB 145 q.1 q.2 (lxf lx_m_isLeaf q.1)) = true := by decide +kernel
def lx_m_isSaid : List (Nat × Nat) := [(6, 1574), (26, 1574), (38, 1613), (45, 1613), (65, 1574), (77, 1574), (92, 1613), (99, 1574), (111, 1613), (122, 1613), (139, 1613), (150, 1613), (168, 1613), (175, 1574), (182, 1574), (191, 1574), (199, 2118), (213, 1613)]
set_option maxRecDepth 100000 in
theorem ok_m_isSaid : (tb_m_isSaid).all (fun q => okB 146 q.1 q.2 (lxf lx_m_isSaid q.1)) = true := by decide +kernel
