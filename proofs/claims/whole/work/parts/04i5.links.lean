/-! Printed by wip/whole/gen_links.py, further. -/
def lx_sn_measure : List (Nat × Nat) := [(0, 1360), (4, 1361), (53, 247), (60, 233), (63, 198), (70, 238), (74, 243), (82, 250)]
set_option maxRecDepth 100000 in
theorem ok_sn_measure : (tb_sn_measure).all (fun q => okB 196 q.1 q.2 (lxf lx_sn_measure q.1)) = true := by decide +kernel
def lx_sn_compare : List (Nat × Nat) := [(1, 1376), (19, 1378)]
set_option maxRecDepth 100000 in
theorem ok_sn_compare : (tb_sn_compare).all (fun q => okB 197 q.1 q.2 (lxf lx_sn_compare q.1)) = true := by decide +kernel
def lx_st_setUntold : List (Nat × Nat) := [(1, 234), (5, 228), (9, 248), (13, 228), (18, 251), (23, 253), (28, 256), (33, 258), (38, 260), (43, 262)]
set_option maxRecDepth 100000 in
theorem ok_st_setUntold : (tb_st_setUntold).all (fun q => okB 198 q.1 q.2 (lxf lx_st_setUntold q.1)) = true := by decide +kernel
def lx_st_copyFrom : List (Nat × Nat) := [(1, 234), (6, 234), (12, 740), (16, 239), (21, 239), (27, 740), (31, 244), (36, 244), (42, 740), (46, 248), (51, 248), (57, 740), (62, 251), (65, 251), (70, 253), (73, 253), (78, 256), (81, 256), (86, 258), (89, 258), (94, 260), (97, 260), (102, 262), (105, 262)]
set_option maxRecDepth 100000 in
theorem ok_st_copyFrom : (tb_st_copyFrom).all (fun q => okB 199 q.1 q.2 (lxf lx_st_copyFrom q.1)) = true := by decide +kernel
def lx_st_isFallen : List (Nat × Nat) := [(1, 251)]
set_option maxRecDepth 100000 in
theorem ok_st_isFallen : (tb_st_isFallen).all (fun q => okB 200 q.1 q.2 (lxf lx_st_isFallen q.1)) = true := by decide +kernel
def lx_st_hoursLeft : List (Nat × Nat) := [(5, 256), (9, 833)]
set_option maxRecDepth 100000 in
theorem ok_st_hoursLeft : (tb_st_hoursLeft).all (fun q => okB 201 q.1 q.2 (lxf lx_st_hoursLeft q.1)) = true := by decide +kernel
def lx_st_loadOn : List (Nat × Nat) := [(8, 231), (11, 169), (18, 239), (37, 714), (45, 231), (48, 195)]
set_option maxRecDepth 100000 in
theorem ok_st_loadOn : (tb_st_loadOn).all (fun q => okB 202 q.1 q.2 (lxf lx_st_loadOn q.1)) = true := by decide +kernel
def lx_st_personsOn : List (Nat × Nat) := [(6, 231), (9, 169), (16, 239), (27, 714)]
set_option maxRecDepth 100000 in
theorem ok_st_personsOn : (tb_st_personsOn).all (fun q => okB 203 q.1 q.2 (lxf lx_st_personsOn q.1)) = true := by decide +kernel
def lx_st_loadWith : List (Nat × Nat) := [(3, 710), (7, 231), (10, 195)]
set_option maxRecDepth 100000 in
theorem ok_st_loadWith : (tb_st_loadWith).all (fun q => okB 204 q.1 q.2 (lxf lx_st_loadWith q.1)) = true := by decide +kernel
def lx_st_allLoads : List (Nat × Nat) := [(6, 231), (9, 169), (18, 714), (29, 231), (32, 195)]
set_option maxRecDepth 100000 in
theorem ok_st_allLoads : (tb_st_allLoads).all (fun q => okB 205 q.1 q.2 (lxf lx_st_allLoads q.1)) = true := by decide +kernel
def lx_st_farFromAll : List (Nat × Nat) := [(6, 231), (9, 169), (18, 714), (29, 239), (35, 844)]
set_option maxRecDepth 100000 in
theorem ok_st_farFromAll : (tb_st_farFromAll).all (fun q => okB 206 q.1 q.2 (lxf lx_st_farFromAll q.1)) = true := by decide +kernel
def lx_st_allIce : List (Nat × Nat) := [(12, 231), (16, 774), (23, 234)]
set_option maxRecDepth 100000 in
theorem ok_st_allIce : (tb_st_allIce).all (fun q => okB 207 q.1 q.2 (lxf lx_st_allIce q.1)) = true := by decide +kernel
def lx_st_bareCells : List (Nat × Nat) := [(12, 231), (16, 774), (23, 234)]
set_option maxRecDepth 100000 in
theorem ok_st_bareCells : (tb_st_bareCells).all (fun q => okB 208 q.1 q.2 (lxf lx_st_bareCells q.1)) = true := by decide +kernel
def lx_st_openSides : List (Nat × Nat) := [(13, 818)]
set_option maxRecDepth 100000 in
theorem ok_st_openSides : (tb_st_openSides).all (fun q => okB 209 q.1 q.2 (lxf lx_st_openSides q.1)) = true := by decide +kernel
def lx_st_iceIfSworn : List (Nat × Nat) := [(1, 239), (7, 844), (11, 231), (14, 178), (22, 234), (28, 231), (31, 174), (35, 833), (42, 234)]
set_option maxRecDepth 100000 in
theorem ok_st_iceIfSworn : (tb_st_iceIfSworn).all (fun q => okB 210 q.1 q.2 (lxf lx_st_iceIfSworn q.1)) = true := by decide +kernel
def lx_st_dangerOf : List (Nat × Nat) := [(6, 231), (9, 169), (17, 714), (25, 714), (33, 239), (39, 710), (45, 239), (50, 878)]
set_option maxRecDepth 100000 in
theorem ok_st_dangerOf : (tb_st_dangerOf).all (fun q => okB 211 q.1 q.2 (lxf lx_st_dangerOf q.1)) = true := by decide +kernel
def lx_st_whyNotGo : List (Nat × Nat) := [(2, 714), (11, 231), (15, 239), (21, 799), (35, 807), (39, 234)]
set_option maxRecDepth 100000 in
theorem ok_st_whyNotGo : (tb_st_whyNotGo).all (fun q => okB 212 q.1 q.2 (lxf lx_st_whyNotGo q.1)) = true := by decide +kernel
def lx_st_tryGo : List (Nat × Nat) := [(3, 818), (12, 239), (17, 231), (21, 239), (27, 799)]
set_option maxRecDepth 100000 in
theorem ok_st_tryGo : (tb_st_tryGo).all (fun q => okB 213 q.1 q.2 (lxf lx_st_tryGo q.1)) = true := by decide +kernel
def lx_st_whyNotBow : List (Nat × Nat) := [(2, 714), (11, 253)]
set_option maxRecDepth 100000 in
theorem ok_st_whyNotBow : (tb_st_whyNotBow).all (fun q => okB 214 q.1 q.2 (lxf lx_st_whyNotBow q.1)) = true := by decide +kernel
def lx_st_tryBow : List (Nat × Nat) := [(2, 831), (12, 253), (19, 253), (24, 258), (29, 258), (33, 234), (37, 239), (45, 234), (49, 239), (57, 832), (62, 244), (68, 244), (75, 833)]
set_option maxRecDepth 100000 in
theorem ok_st_tryBow : (tb_st_tryBow).all (fun q => okB 215 q.1 q.2 (lxf lx_st_tryBow q.1)) = true := by decide +kernel
def lx_st_whyNotPraise : List (Nat × Nat) := [(9, 714), (17, 714), (26, 239), (32, 239), (37, 844)]
set_option maxRecDepth 100000 in
theorem ok_st_whyNotPraise : (tb_st_whyNotPraise).all (fun q => okB 216 q.1 q.2 (lxf lx_st_whyNotPraise q.1)) = true := by decide +kernel
def lx_st_tryPraise : List (Nat × Nat) := [(3, 851), (12, 248), (23, 260), (28, 260), (32, 244), (38, 244), (45, 833), (50, 248), (56, 231), (59, 186), (67, 239), (72, 852)]
set_option maxRecDepth 100000 in
theorem ok_st_tryPraise : (tb_st_tryPraise).all (fun q => okB 217 q.1 q.2 (lxf lx_st_tryPraise q.1)) = true := by decide +kernel
def lx_st_thin : List (Nat × Nat) := [(1, 234), (7, 234), (14, 833), (21, 710), (25, 234), (35, 251), (40, 856), (44, 251)]
set_option maxRecDepth 100000 in
theorem ok_st_thin : (tb_st_thin).all (fun q => okB 218 q.1 q.2 (lxf lx_st_thin q.1)) = true := by decide +kernel
def lx_st_whyNotSwear : List (Nat × Nat) := [(2, 714)]
set_option maxRecDepth 100000 in
theorem ok_st_whyNotSwear : (tb_st_whyNotSwear).all (fun q => okB 219 q.1 q.2 (lxf lx_st_whyNotSwear q.1)) = true := by decide +kernel
def lx_st_trySwear : List (Nat × Nat) := [(2, 869), (12, 870)]
set_option maxRecDepth 100000 in
theorem ok_st_trySwear : (tb_st_trySwear).all (fun q => okB 220 q.1 q.2 (lxf lx_st_trySwear q.1)) = true := by decide +kernel
def lx_st_breakRound : List (Nat × Nat) := [(2, 874), (8, 239), (17, 231), (20, 178), (24, 833), (29, 231), (32, 166), (38, 239), (47, 231), (50, 178), (54, 832), (73, 231), (76, 162), (84, 234), (93, 878), (105, 251), (110, 251), (114, 244), (122, 262), (127, 262), (132, 264), (139, 264)]
set_option maxRecDepth 100000 in
theorem ok_st_breakRound : (tb_st_breakRound).all (fun q => okB 221 q.1 q.2 (lxf lx_st_breakRound q.1)) = true := by decide +kernel
def lx_st_passHour : List (Nat × Nat) := [(4, 231), (7, 169), (15, 714), (22, 244), (29, 244), (36, 895), (40, 832), (45, 244), (51, 231), (54, 182), (62, 870), (73, 256), (78, 256), (82, 231), (85, 190), (92, 256), (96, 231), (99, 190), (107, 899), (112, 253), (116, 248), (120, 228)]
set_option maxRecDepth 100000 in
theorem ok_st_passHour : (tb_st_passHour).all (fun q => okB 222 q.1 q.2 (lxf lx_st_passHour q.1)) = true := by decide +kernel
def lx_st_othersNear : List (Nat × Nat) := [(6, 231), (9, 169), (22, 714), (29, 239), (35, 239), (40, 844)]
set_option maxRecDepth 100000 in
theorem ok_st_othersNear : (tb_st_othersNear).all (fun q => okB 223 q.1 q.2 (lxf lx_st_othersNear q.1)) = true := by decide +kernel
def lx_st_freeze : List (Nat × Nat) := [(9, 234), (16, 234), (23, 832)]
set_option maxRecDepth 100000 in
theorem ok_st_freeze : (tb_st_freeze).all (fun q => okB 224 q.1 q.2 (lxf lx_st_freeze q.1)) = true := by decide +kernel
def lx_st_drawHour : List (Nat × Nat) := [(4, 231), (7, 169), (15, 911), (25, 924)]
set_option maxRecDepth 100000 in
theorem ok_st_drawHour : (tb_st_drawHour).all (fun q => okB 225 q.1 q.2 (lxf lx_st_drawHour q.1)) = true := by decide +kernel
def lx_st_drawAct : List (Nat × Nat) := [(3, 915), (15, 920), (29, 921), (45, 231), (48, 169), (51, 915), (54, 922), (69, 915), (77, 923)]
set_option maxRecDepth 100000 in
theorem ok_st_drawAct : (tb_st_drawAct).all (fun q => okB 226 q.1 q.2 (lxf lx_st_drawAct q.1)) = true := by decide +kernel
def lx_st_draw : List (Nat × Nat) := [(2, 267), (5, 919), (12, 267), (20, 267)]
set_option maxRecDepth 100000 in
theorem ok_st_draw : (tb_st_draw).all (fun q => okB 227 q.1 q.2 (lxf lx_st_draw q.1)) = true := by decide +kernel
def lx_tl_readLines : List (Nat × Nat) := [(1, 420), (4, 625), (9, 421), (14, 422), (19, 423), (24, 424), (29, 425), (34, 426), (39, 427), (52, 419), (55, 638), (62, 419), (65, 642), (72, 646), (76, 419), (79, 718), (82, 720)]
set_option maxRecDepth 100000 in
theorem ok_tl_readLines : (tb_tl_readLines).all (fun q => okB 228 q.1 q.2 (lxf lx_tl_readLines q.1)) = true := by decide +kernel
def lx_tl_readLine : List (Nat × Nat) := [(1, 420), (4, 324), (8, 650), (12, 419), (15, 380), (18, 652), (65, 658), (72, 682), (79, 694), (88, 422), (91, 662), (94, 422), (99, 419), (105, 675), (108, 172), (113, 419), (118, 675), (121, 176), (130, 423), (133, 662), (136, 423), (141, 419), (147, 675), (150, 180), (159, 424), (162, 662), (165, 424), (170, 419), (176, 675), (179, 184), (188, 425), (191, 662), (194, 425), (199, 419), (205, 675), (208, 188), (215, 419), (219, 666)]
set_option maxRecDepth 100000 in
theorem ok_tl_readLine : (tb_tl_readLine).all (fun q => okB 229 q.1 q.2 (lxf lx_tl_readLine q.1)) = true := by decide +kernel
def lx_tl_takeOnce : List (Nat × Nat) := [(5, 419), (9, 666), (16, 419), (19, 674)]
set_option maxRecDepth 100000 in
theorem ok_tl_takeOnce : (tb_tl_takeOnce).all (fun q => okB 230 q.1 q.2 (lxf lx_tl_takeOnce q.1)) = true := by decide +kernel
def lx_tl_readLake : List (Nat × Nat) := [(3, 421), (10, 426), (21, 662), (24, 421), (28, 420), (31, 324), (35, 419), (41, 675), (44, 160), (48, 420), (51, 324), (55, 419), (61, 675), (64, 164), (68, 420), (71, 326), (74, 236), (78, 419), (84, 675), (87, 681)]
set_option maxRecDepth 100000 in
theorem ok_tl_readLake : (tb_tl_readLake).all (fun q => okB 231 q.1 q.2 (lxf lx_tl_readLake q.1)) = true := by decide +kernel
def lx_tl_readIce : List (Nat × Nat) := [(2, 420), (5, 324), (8, 168), (19, 662), (24, 686), (29, 427), (42, 419), (46, 690), (51, 427), (58, 427), (62, 420), (65, 326), (68, 236), (73, 419), (79, 675)]
set_option maxRecDepth 100000 in
theorem ok_tl_readIce : (tb_tl_readIce).all (fun q => okB 232 q.1 q.2 (lxf lx_tl_readIce q.1)) = true := by decide +kernel
def lx_tl_takeCell : List (Nat × Nat) := [(2, 426), (6, 419), (11, 420), (14, 324), (17, 160), (22, 675), (27, 419), (32, 420), (35, 324), (38, 164), (43, 675)]
set_option maxRecDepth 100000 in
theorem ok_tl_takeCell : (tb_tl_takeCell).all (fun q => okB 233 q.1 q.2 (lxf lx_tl_takeCell q.1)) = true := by decide +kernel
def lx_tl_readPerson : List (Nat × Nat) := [(1, 420), (4, 324), (9, 168), (20, 419), (24, 666), (29, 419), (32, 674), (36, 192), (41, 419), (45, 698), (50, 420), (53, 326), (56, 241), (61, 686), (66, 196), (71, 419), (76, 675), (81, 420), (84, 326), (89, 420), (92, 326), (95, 241), (100, 706), (104, 420), (107, 326), (110, 236), (114, 420), (117, 326), (120, 241), (130, 419), (134, 690), (138, 420), (141, 326), (144, 246), (149, 419), (155, 675), (163, 168)]
set_option maxRecDepth 100000 in
theorem ok_tl_readPerson : (tb_tl_readPerson).all (fun q => okB 234 q.1 q.2 (lxf lx_tl_readPerson q.1)) = true := by decide +kernel
def lx_wy_stepAt : List (Nat × Nat) := [(6, 481), (13, 480)]
set_option maxRecDepth 100000 in
theorem ok_wy_stepAt : (tb_wy_stepAt).all (fun q => okB 235 q.1 q.2 (lxf lx_wy_stepAt q.1)) = true := by decide +kernel
def lx_wy_fewestSteps : List (Nat × Nat) := [(1, 240), (17, 946), (21, 235), (35, 947), (39, 478), (55, 232), (60, 953), (64, 481)]
set_option maxRecDepth 100000 in
theorem ok_wy_fewestSteps : (tb_wy_fewestSteps).all (fun q => okB 236 q.1 q.2 (lxf lx_wy_fewestSteps q.1)) = true := by decide +kernel
def lx_wy_measureFrom : List (Nat × Nat) := [(1, 478), (7, 951), (11, 478), (18, 479), (54, 232), (58, 479), (66, 952), (85, 478), (101, 946), (105, 235), (115, 478), (121, 478), (125, 479), (136, 479)]
set_option maxRecDepth 100000 in
theorem ok_wy_measureFrom : (tb_wy_measureFrom).all (fun q => okB 237 q.1 q.2 (lxf lx_wy_measureFrom q.1)) = true := by decide +kernel
def lx_wy_noteSides : List (Nat × Nat) := [(4, 478), (9, 481), (18, 481), (34, 957), (43, 952), (49, 480)]
set_option maxRecDepth 100000 in
theorem ok_wy_noteSides : (tb_wy_noteSides).all (fun q => okB 238 q.1 q.2 (lxf lx_wy_noteSides q.1)) = true := by decide +kernel
def lx_wy_nearerSide : List (Nat × Nat) := [(10, 952), (22, 478), (29, 478)]
set_option maxRecDepth 100000 in
theorem ok_wy_nearerSide : (tb_wy_nearerSide).all (fun q => okB 239 q.1 q.2 (lxf lx_wy_nearerSide q.1)) = true := by decide +kernel
def lx_wy_leastBows : List (Nat × Nat) := [(1, 478), (7, 951), (11, 478), (15, 240), (54, 478), (71, 977), (93, 478), (109, 478)]
set_option maxRecDepth 100000 in
theorem ok_wy_leastBows : (tb_wy_leastBows).all (fun q => okB 240 q.1 q.2 (lxf lx_wy_leastBows q.1)) = true := by decide +kernel
def lx_wy_spreadBows : List (Nat × Nat) := [(13, 232), (19, 952), (40, 946), (53, 478), (62, 235), (69, 981), (78, 478), (88, 478)]
set_option maxRecDepth 100000 in
theorem ok_wy_spreadBows : (tb_wy_spreadBows).all (fun q => okB 241 q.1 q.2 (lxf lx_wy_spreadBows q.1)) = true := by decide +kernel
def lx_wy_thickest : List (Nat × Nat) := [(1, 240), (15, 235), (23, 478), (27, 951), (31, 478), (71, 478), (86, 990), (108, 478)]
set_option maxRecDepth 100000 in
theorem ok_wy_thickest : (tb_wy_thickest).all (fun q => okB 242 q.1 q.2 (lxf lx_wy_thickest q.1)) = true := by decide +kernel
def lx_wy_spreadThickness : List (Nat × Nat) := [(13, 232), (19, 952), (34, 946), (38, 235), (48, 478), (54, 235), (60, 994), (68, 478), (78, 478)]
set_option maxRecDepth 100000 in
theorem ok_wy_spreadThickness : (tb_wy_spreadThickness).all (fun q => okB 243 q.1 q.2 (lxf lx_wy_spreadThickness q.1)) = true := by decide +kernel
def lx_ja_fill : List (Nat × Nat) := []
set_option maxRecDepth 100000 in
theorem ok_ja_fill : (tb_ja_fill).all (fun q => okB 244 q.1 q.2 (lxf lx_ja_fill q.1)) = true := by decide +kernel
