/-! Printed by wip/whole/gen_links.py, further. -/
def lx_m_said : List (Nat × Nat) := [(2, 1568), (6, 1574), (29, 1574), (39, 2114)]
set_option maxRecDepth 100000 in
theorem ok_m_said : (tb_m_said).all (fun q => okB 147 q.1 q.2 (lxf lx_m_said q.1)) = true := by decide +kernel
def lx_m_image : List (Nat × Nat) := [(2, 1568), (8, 1765), (26, 1614), (37, 1574), (58, 1615), (68, 1577), (81, 1616)]
set_option maxRecDepth 100000 in
theorem ok_m_image : (tb_m_image).all (fun q => okB 148 q.1 q.2 (lxf lx_m_image q.1)) = true := by decide +kernel
def lx_m_restore : List (Nat × Nat) := [(2, 1568), (8, 1765), (15, 1616), (35, 1574), (40, 1614), (67, 1577), (72, 1615), (91, 1593)]
set_option maxRecDepth 100000 in
theorem ok_m_restore : (tb_m_restore).all (fun q => okB 149 q.1 q.2 (lxf lx_m_restore q.1)) = true := by decide +kernel
def lx_m_count : List (Nat × Nat) := [(2, 1568), (12, 1570), (22, 1765), (29, 1574)]
set_option maxRecDepth 100000 in
theorem ok_m_count : (tb_m_count).all (fun q => okB 150 q.1 q.2 (lxf lx_m_count q.1)) = true := by decide +kernel
def lx_bk_readLines : List (Nat × Nat) := [(2, 458), (6, 458), (15, 1275), (22, 1276), (31, 1277), (35, 1303), (38, 1291), (43, 458), (48, 458), (55, 1275), (62, 1276), (71, 1304)]
set_option maxRecDepth 100000 in
theorem ok_bk_readLines : (tb_bk_readLines).all (fun q => okB 151 q.1 q.2 (lxf lx_bk_readLines q.1)) = true := by decide +kernel
def lx_bk_failBehindLast : List (Nat × Nat) := [(1, 379), (4, 1281), (12, 1285), (18, 1308), (23, 1302)]
set_option maxRecDepth 100000 in
theorem ok_bk_failBehindLast : (tb_bk_failBehindLast).all (fun q => okB 152 q.1 q.2 (lxf lx_bk_failBehindLast q.1)) = true := by decide +kernel
def lx_bk_readLine : List (Nat × Nat) := [(1, 456), (5, 458), (11, 457), (15, 458), (21, 379), (24, 1281), (31, 455), (35, 458), (38, 1281), (43, 1283), (47, 457), (51, 458), (58, 1284), (64, 456), (68, 458), (73, 1285), (78, 455), (82, 458), (86, 379), (91, 379), (94, 1289), (101, 1289), (104, 1291), (108, 457), (112, 458), (117, 1285), (125, 379), (128, 1292), (135, 379), (138, 1294), (145, 379), (148, 1296), (157, 379), (160, 1291), (168, 1302)]
set_option maxRecDepth 100000 in
theorem ok_bk_readLine : (tb_bk_readLine).all (fun q => okB 153 q.1 q.2 (lxf lx_bk_readLine q.1)) = true := by decide +kernel
def lx_bk_liveIn : List (Nat × Nat) := [(2, 459), (9, 458), (19, 1313), (22, 459), (26, 459), (41, 458)]
set_option maxRecDepth 100000 in
theorem ok_bk_liveIn : (tb_bk_liveIn).all (fun q => okB 154 q.1 q.2 (lxf lx_bk_liveIn q.1)) = true := by decide +kernel
def lx_bk_liveLine : List (Nat × Nat) := [(0, 1317), (4, 455), (9, 1318), (45, 457), (51, 1319), (64, 457), (73, 1320), (88, 456), (93, 1321), (96, 1322), (104, 456), (110, 457), (115, 1325), (118, 1322), (126, 456), (131, 1326), (134, 1322), (140, 456), (146, 455), (151, 1296), (154, 1327)]
set_option maxRecDepth 100000 in
theorem ok_bk_liveLine : (tb_bk_liveLine).all (fun q => okB 155 q.1 q.2 (lxf lx_bk_liveLine q.1)) = true := by decide +kernel
def lx_bk_reason : List (Nat × Nat) := []
set_option maxRecDepth 100000 in
theorem ok_bk_reason : (tb_bk_reason).all (fun q => okB 156 q.1 q.2 (lxf lx_bk_reason q.1)) = true := by decide +kernel
def lx_hy_clear : List (Nat × Nat) := [(2, 351)]
set_option maxRecDepth 100000 in
theorem ok_hy_clear : (tb_hy_clear).all (fun q => okB 157 q.1 q.2 (lxf lx_hy_clear q.1)) = true := by decide +kernel
def lx_hy_keep : List (Nat × Nat) := [(1, 349), (5, 350), (10, 812), (15, 350), (23, 350), (30, 351), (35, 813), (38, 351)]
set_option maxRecDepth 100000 in
theorem ok_hy_keep : (tb_hy_keep).all (fun q => okB 158 q.1 q.2 (lxf lx_hy_keep q.1)) = true := by decide +kernel
def lx_hy_takeBack : List (Nat × Nat) := [(1, 351), (11, 351), (16, 351), (21, 350), (32, 350), (37, 349), (41, 350), (45, 812)]
set_option maxRecDepth 100000 in
theorem ok_hy_takeBack : (tb_hy_takeBack).all (fun q => okB 159 q.1 q.2 (lxf lx_hy_takeBack q.1)) = true := by decide +kernel
def lx_kd_byCode : List (Nat × Nat) := [(3, 615), (10, 615), (15, 2163), (23, 615)]
set_option maxRecDepth 100000 in
theorem ok_kd_byCode : (tb_kd_byCode).all (fun q => okB 160 q.1 q.2 (lxf lx_kd_byCode q.1)) = true := by decide +kernel
def lx_kd_side : List (Nat × Nat) := [(0, 1300), (4, 1301)]
set_option maxRecDepth 100000 in
theorem ok_kd_side : (tb_kd_side).all (fun q => okB 161 q.1 q.2 (lxf lx_kd_side q.1)) = true := by decide +kernel
def lx_lk_setUntold : List (Nat × Nat) := [(2, 159), (7, 163), (12, 167), (17, 171), (22, 175), (27, 179), (32, 183), (38, 187)]
set_option maxRecDepth 100000 in
theorem ok_lk_setUntold : (tb_lk_setUntold).all (fun q => okB 162 q.1 q.2 (lxf lx_lk_setUntold q.1)) = true := by decide +kernel
def lx_lk_copyFrom : List (Nat × Nat) := [(2, 159), (5, 159), (10, 163), (13, 163), (18, 167), (21, 167), (26, 171), (29, 171), (34, 175), (37, 175), (42, 179), (45, 179), (50, 183), (53, 183), (58, 187), (61, 187), (65, 191), (70, 191), (76, 733), (80, 194), (85, 194), (91, 733)]
set_option maxRecDepth 100000 in
theorem ok_lk_copyFrom : (tb_lk_copyFrom).all (fun q => okB 163 q.1 q.2 (lxf lx_lk_copyFrom q.1)) = true := by decide +kernel
def lx_lk_isPerson : List (Nat × Nat) := [(6, 167)]
set_option maxRecDepth 100000 in
theorem ok_lk_isPerson : (tb_lk_isPerson).all (fun q => okB 164 q.1 q.2 (lxf lx_lk_isPerson q.1)) = true := by decide +kernel
def lx_lk_isCell : List (Nat × Nat) := [(6, 159), (18, 163)]
set_option maxRecDepth 100000 in
theorem ok_lk_isCell : (tb_lk_isCell).all (fun q => okB 165 q.1 q.2 (lxf lx_lk_isCell q.1)) = true := by decide +kernel
def lx_lk_hasCell : List (Nat × Nat) := [(9, 778)]
set_option maxRecDepth 100000 in
theorem ok_lk_hasCell : (tb_lk_hasCell).all (fun q => okB 166 q.1 q.2 (lxf lx_lk_hasCell q.1)) = true := by decide +kernel
def lx_lk_beside : List (Nat × Nat) := [(15, 803), (26, 805), (38, 778)]
set_option maxRecDepth 100000 in
theorem ok_lk_beside : (tb_lk_beside).all (fun q => okB 167 q.1 q.2 (lxf lx_lk_beside q.1)) = true := by decide +kernel
def lx_lk_personCalled : List (Nat × Nat) := [(4, 167), (11, 191)]
set_option maxRecDepth 100000 in
theorem ok_lk_personCalled : (tb_lk_personCalled).all (fun q => okB 168 q.1 q.2 (lxf lx_lk_personCalled q.1)) = true := by decide +kernel
def lx_lk_far : List (Nat × Nat) := []
set_option maxRecDepth 100000 in
theorem ok_lk_far : (tb_lk_far).all (fun q => okB 169 q.1 q.2 (lxf lx_lk_far q.1)) = true := by decide +kernel
def lx_rd_open : List (Nat × Nat) := [(3, 368), (7, 599), (10, 369), (15, 370), (20, 371), (25, 372), (30, 382), (35, 384), (39, 602)]
set_option maxRecDepth 100000 in
theorem ok_rd_open : (tb_rd_open).all (fun q => okB 170 q.1 q.2 (lxf lx_rd_open q.1)) = true := by decide +kernel
def lx_rd_failed : List (Nat × Nat) := [(1, 382)]
set_option maxRecDepth 100000 in
theorem ok_rd_failed : (tb_rd_failed).all (fun q => okB 171 q.1 q.2 (lxf lx_rd_failed q.1)) = true := by decide +kernel
def lx_rd_atEnd : List (Nat × Nat) := [(1, 378), (4, 367), (11, 369), (15, 370)]
set_option maxRecDepth 100000 in
theorem ok_rd_atEnd : (tb_rd_atEnd).all (fun q => okB 172 q.1 q.2 (lxf lx_rd_atEnd q.1)) = true := by decide +kernel
def lx_rd_fail : List (Nat × Nat) := [(2, 372), (6, 670)]
set_option maxRecDepth 100000 in
theorem ok_rd_fail : (tb_rd_fail).all (fun q => okB 173 q.1 q.2 (lxf lx_rd_fail q.1)) = true := by decide +kernel
def lx_rd_failTaken : List (Nat × Nat) := [(2, 373), (6, 670)]
set_option maxRecDepth 100000 in
theorem ok_rd_failTaken : (tb_rd_failTaken).all (fun q => okB 174 q.1 q.2 (lxf lx_rd_failTaken q.1)) = true := by decide +kernel
def lx_rd_failAt : List (Nat × Nat) := [(1, 382), (9, 382), (14, 384)]
set_option maxRecDepth 100000 in
theorem ok_rd_failAt : (tb_rd_failAt).all (fun q => okB 175 q.1 q.2 (lxf lx_rd_failAt q.1)) = true := by decide +kernel
def lx_rd_advance : List (Nat × Nat) := [(2, 372), (5, 373), (9, 369), (13, 370), (16, 599), (21, 371), (29, 368), (33, 371), (43, 368), (47, 371), (58, 371), (63, 371), (71, 371), (75, 599), (78, 372), (82, 371), (90, 367), (93, 378), (98, 606), (102, 376), (106, 377), (115, 368), (119, 371), (124, 610), (127, 612), (130, 378), (135, 371), (140, 371), (147, 377), (154, 376), (164, 375), (167, 617), (170, 612), (173, 378), (181, 376), (188, 377), (195, 619), (201, 610), (204, 378)]
set_option maxRecDepth 100000 in
theorem ok_rd_advance : (tb_rd_advance).all (fun q => okB 176 q.1 q.2 (lxf lx_rd_advance q.1)) = true := by decide +kernel
def lx_rd_readRun : List (Nat × Nat) := [(2, 376), (7, 377), (12, 375), (17, 374), (21, 371), (25, 369), (32, 368), (36, 371), (55, 376), (60, 376), (65, 375), (74, 375), (94, 377), (99, 377), (106, 374), (115, 374), (124, 371), (129, 371)]
set_option maxRecDepth 100000 in
theorem ok_rd_readRun : (tb_rd_readRun).all (fun q => okB 177 q.1 q.2 (lxf lx_rd_readRun q.1)) = true := by decide +kernel
def lx_rd_take : List (Nat × Nat) := [(1, 680), (9, 378), (17, 602), (25, 679)]
set_option maxRecDepth 100000 in
theorem ok_rd_take : (tb_rd_take).all (fun q => okB 178 q.1 q.2 (lxf lx_rd_take q.1)) = true := by decide +kernel
def lx_rd_takeNumber : List (Nat × Nat) := [(1, 378), (4, 619), (12, 679), (19, 374), (27, 374), (36, 679), (40, 680), (49, 374), (54, 602)]
set_option maxRecDepth 100000 in
theorem ok_rd_takeNumber : (tb_rd_takeNumber).all (fun q => okB 179 q.1 q.2 (lxf lx_rd_takeNumber q.1)) = true := by decide +kernel
def lx_rd_takePerson : List (Nat × Nat) := [(3, 378), (6, 617), (14, 679), (22, 375), (25, 702), (36, 679), (40, 680), (49, 602)]
set_option maxRecDepth 100000 in
theorem ok_rd_takePerson : (tb_rd_takePerson).all (fun q => okB 180 q.1 q.2 (lxf lx_rd_takePerson q.1)) = true := by decide +kernel
def lx_rd_takeNewName : List (Nat × Nat) := [(1, 378), (4, 617), (12, 679), (20, 375), (23, 702), (32, 679), (36, 680), (45, 375), (50, 602)]
set_option maxRecDepth 100000 in
theorem ok_rd_takeNewName : (tb_rd_takeNewName).all (fun q => okB 181 q.1 q.2 (lxf lx_rd_takeNewName q.1)) = true := by decide +kernel
def lx_sc_setUntold : List (Nat × Nat) := [(1, 322), (4, 629), (8, 325), (11, 630), (15, 328), (18, 634)]
set_option maxRecDepth 100000 in
theorem ok_sc_setUntold : (tb_sc_setUntold).all (fun q => okB 182 q.1 q.2 (lxf lx_sc_setUntold q.1)) = true := by decide +kernel
def lx_sc_copyFrom : List (Nat × Nat) := [(1, 322), (5, 322), (8, 729), (12, 325), (16, 325), (19, 736), (23, 328), (27, 328), (30, 741)]
set_option maxRecDepth 100000 in
theorem ok_sc_copyFrom : (tb_sc_copyFrom).all (fun q => okB 183 q.1 q.2 (lxf lx_sc_copyFrom q.1)) = true := by decide +kernel
def lx_sn_isThere : List (Nat × Nat) := [(1, 308)]
set_option maxRecDepth 100000 in
theorem ok_sn_isThere : (tb_sn_isThere).all (fun q => okB 184 q.1 q.2 (lxf lx_sn_isThere q.1)) = true := by decide +kernel
def lx_sn_clear : List (Nat × Nat) := [(2, 308), (7, 309)]
set_option maxRecDepth 100000 in
theorem ok_sn_clear : (tb_sn_clear).all (fun q => okB 185 q.1 q.2 (lxf lx_sn_clear q.1)) = true := by decide +kernel
def lx_sn_copyFrom : List (Nat × Nat) := [(2, 308), (5, 308), (10, 309), (13, 309), (20, 308), (27, 305), (32, 305), (39, 306), (44, 306), (51, 307), (56, 307)]
set_option maxRecDepth 100000 in
theorem ok_sn_copyFrom : (tb_sn_copyFrom).all (fun q => okB 186 q.1 q.2 (lxf lx_sn_copyFrom q.1)) = true := by decide +kernel
def lx_sn_read : List (Nat × Nat) := [(1, 1344), (8, 1345), (12, 1387), (20, 1362)]
set_option maxRecDepth 100000 in
theorem ok_sn_read : (tb_sn_read).all (fun q => okB 187 q.1 q.2 (lxf lx_sn_read q.1)) = true := by decide +kernel
def lx_sn_readSome : List (Nat × Nat) := [(4, 1349), (18, 381), (21, 1385), (28, 1363), (35, 1364), (42, 1349), (46, 1385), (49, 303), (53, 1365)]
set_option maxRecDepth 100000 in
theorem ok_sn_readSome : (tb_sn_readSome).all (fun q => okB 188 q.1 q.2 (lxf lx_sn_readSome q.1)) = true := by decide +kernel
def lx_sn_readAll : List (Nat × Nat) := [(4, 1353), (18, 381), (21, 1383), (28, 1363), (35, 1364), (42, 1353), (46, 1383), (49, 303), (53, 1365)]
set_option maxRecDepth 100000 in
theorem ok_sn_readAll : (tb_sn_readAll).all (fun q => okB 189 q.1 q.2 (lxf lx_sn_readAll q.1)) = true := by decide +kernel
def lx_sn_readOne : List (Nat × Nat) := [(1, 381), (8, 1357), (16, 1362), (23, 309), (39, 1362), (43, 1363), (52, 309), (57, 309), (61, 1364), (64, 1360), (69, 1361), (118, 1353), (124, 303), (128, 1365), (140, 1345), (144, 1369), (147, 1371), (156, 303), (160, 1365), (169, 303), (174, 1372), (177, 1365), (184, 1373), (199, 1382), (202, 1365)]
set_option maxRecDepth 100000 in
theorem ok_sn_readOne : (tb_sn_readOne).all (fun q => okB 190 q.1 q.2 (lxf lx_sn_readOne q.1)) = true := by decide +kernel
def lx_sn_beginsOne : List (Nat × Nat) := [(0, 1360), (4, 1361)]
set_option maxRecDepth 100000 in
theorem ok_sn_beginsOne : (tb_sn_beginsOne).all (fun q => okB 191 q.1 q.2 (lxf lx_sn_beginsOne q.1)) = true := by decide +kernel
def lx_sn_takeSign : List (Nat × Nat) := [(1, 381), (6, 1376), (13, 1378), (20, 1380), (27, 1364), (35, 1362)]
set_option maxRecDepth 100000 in
theorem ok_sn_takeSign : (tb_sn_takeSign).all (fun q => okB 192 q.1 q.2 (lxf lx_sn_takeSign q.1)) = true := by decide +kernel
def lx_sn_add : List (Nat × Nat) := [(1, 308), (10, 305), (14, 308), (20, 306), (24, 308), (30, 307), (34, 308), (41, 308), (46, 308)]
set_option maxRecDepth 100000 in
theorem ok_sn_add : (tb_sn_add).all (fun q => okB 193 q.1 q.2 (lxf lx_sn_add q.1)) = true := by decide +kernel
def lx_sn_holdsOf : List (Nat × Nat) := [(8, 308), (19, 1360), (23, 305), (29, 1361), (106, 1401)]
set_option maxRecDepth 100000 in
theorem ok_sn_holdsOf : (tb_sn_holdsOf).all (fun q => okB 194 q.1 q.2 (lxf lx_sn_holdsOf q.1)) = true := by decide +kernel
def lx_sn_partHolds : List (Nat × Nat) := [(0, 1360), (4, 305), (9, 1361), (46, 1405), (51, 255), (68, 243), (74, 243), (78, 307), (84, 1406), (99, 1407), (103, 307), (121, 305), (128, 1408), (132, 306), (138, 307), (143, 1411)]
set_option maxRecDepth 100000 in
theorem ok_sn_partHolds : (tb_sn_partHolds).all (fun q => okB 195 q.1 q.2 (lxf lx_sn_partHolds q.1)) = true := by decide +kernel
