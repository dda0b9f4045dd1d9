/-! Printed by wip/whole/gen_links.py: where the links of each row stand among the words; each row is as the class file has it. -/
def lxf : List (Nat × Nat) → Nat → Nat
  | [], _ => 0
  | (q, n) :: t, pc => bif q == pc then n else lxf t pc
def lx_i_feed : List (Nat × Nat) := [(1, 524), (17, 579), (22, 579), (27, 579), (33, 579), (39, 579), (43, 524)]
set_option maxRecDepth 100000 in
theorem ok_i_feed : (tb_i_feed).all (fun q => okB 0 q.1 q.2 (lxf lx_i_feed q.1)) = true := by decide +kernel
def lx_i_putBytes : List (Nat × Nat) := [(8, 524), (18, 523), (22, 524), (35, 524), (40, 524)]
set_option maxRecDepth 100000 in
theorem ok_i_putBytes : (tb_i_putBytes).all (fun q => okB 1 q.1 q.2 (lxf lx_i_putBytes q.1)) = true := by decide +kernel
def lx_i_end : List (Nat × Nat) := [(6, 524), (16, 524)]
set_option maxRecDepth 100000 in
theorem ok_i_end : (tb_i_end).all (fun q => okB 2 q.1 q.2 (lxf lx_i_end q.1)) = true := by decide +kernel
def lx_i_lake : List (Nat × Nat) := [(4, 591), (8, 532), (11, 621), (17, 531), (20, 383), (23, 538), (27, 531), (30, 724), (38, 531), (41, 385), (47, 525), (51, 526), (54, 725), (58, 530), (61, 745)]
set_option maxRecDepth 100000 in
theorem ok_i_lake : (tb_i_lake).all (fun q => okB 3 q.1 q.2 (lxf lx_i_lake q.1)) = true := by decide +kernel
def lx_i_openTape : List (Nat × Nat) := [(1, 531), (5, 524), (9, 595), (14, 524)]
set_option maxRecDepth 100000 in
theorem ok_i_openTape : (tb_i_openTape).all (fun q => okB 4 q.1 q.2 (lxf lx_i_openTape q.1)) = true := by decide +kernel
def lx_i_fault : List (Nat × Nat) := [(1, 538)]
set_option maxRecDepth 100000 in
theorem ok_i_fault : (tb_i_fault).all (fun q => okB 5 q.1 q.2 (lxf lx_i_fault q.1)) = true := by decide +kernel
def lx_i_cell : List (Nat × Nat) := [(1, 525), (4, 323), (9, 757), (53, 525), (56, 327), (59, 237), (67, 525), (70, 327), (76, 761), (81, 525), (84, 327), (89, 762)]
set_option maxRecDepth 100000 in
theorem ok_i_cell : (tb_i_cell).all (fun q => okB 6 q.1 q.2 (lxf lx_i_cell q.1)) = true := by decide +kernel
def lx_i_now : List (Nat × Nat) := [(1, 525), (4, 327), (57, 257), (62, 252), (67, 254), (72, 770), (77, 779), (82, 259), (87, 261), (92, 263)]
set_option maxRecDepth 100000 in
theorem ok_i_now : (tb_i_now).all (fun q => okB 7 q.1 q.2 (lxf lx_i_now q.1)) = true := by decide +kernel
def lx_i_count : List (Nat × Nat) := [(1, 525), (4, 323), (61, 161), (66, 165), (71, 170), (76, 173), (81, 177), (86, 181), (91, 185), (96, 189), (101, 524)]
set_option maxRecDepth 100000 in
theorem ok_i_count : (tb_i_count).all (fun q => okB 8 q.1 q.2 (lxf lx_i_count q.1)) = true := by decide +kernel
def lx_i_greatestDivisor : List (Nat × Nat) := []
set_option maxRecDepth 100000 in
theorem ok_i_greatestDivisor : (tb_i_greatestDivisor).all (fun q => okB 9 q.1 q.2 (lxf lx_i_greatestDivisor q.1)) = true := by decide +kernel
def lx_i_go : List (Nat × Nat) := [(1, 525), (4, 323), (8, 791), (26, 525), (29, 327), (34, 795), (43, 530), (47, 525), (50, 327), (53, 808), (57, 525), (60, 327), (65, 814)]
set_option maxRecDepth 100000 in
theorem ok_i_go : (tb_i_go).all (fun q => okB 10 q.1 q.2 (lxf lx_i_go q.1)) = true := by decide +kernel
def lx_i_bow : List (Nat × Nat) := [(1, 525), (4, 323), (8, 791), (17, 525), (20, 327), (24, 823), (33, 530), (37, 525), (40, 327), (43, 808), (47, 525), (50, 327), (54, 827)]
set_option maxRecDepth 100000 in
theorem ok_i_bow : (tb_i_bow).all (fun q => okB 11 q.1 q.2 (lxf lx_i_bow q.1)) = true := by decide +kernel
def lx_i_praise : List (Nat × Nat) := [(1, 525), (4, 323), (8, 791), (15, 525), (18, 323), (22, 791), (31, 525), (34, 327), (39, 840), (48, 530), (52, 525), (55, 327), (58, 808), (62, 525), (65, 327), (70, 847)]
set_option maxRecDepth 100000 in
theorem ok_i_praise : (tb_i_praise).all (fun q => okB 12 q.1 q.2 (lxf lx_i_praise q.1)) = true := by decide +kernel
def lx_i_swear : List (Nat × Nat) := [(1, 525), (4, 323), (8, 791), (17, 525), (20, 327), (24, 861), (33, 530), (37, 525), (40, 327), (43, 808), (47, 525), (50, 327), (54, 865)]
set_option maxRecDepth 100000 in
theorem ok_i_swear : (tb_i_swear).all (fun q => okB 13 q.1 q.2 (lxf lx_i_swear q.1)) = true := by decide +kernel
def lx_i_hours : List (Nat × Nat) := [(15, 525), (18, 327), (21, 886), (24, 890), (33, 530), (37, 525), (40, 327), (43, 808), (54, 525), (57, 327), (60, 891)]
set_option maxRecDepth 100000 in
theorem ok_i_hours : (tb_i_hours).all (fun q => okB 14 q.1 q.2 (lxf lx_i_hours q.1)) = true := by decide +kernel
def lx_i_drawn : List (Nat × Nat) := [(15, 525), (18, 327), (21, 886), (24, 890), (33, 530), (37, 525), (40, 327), (43, 808), (47, 525), (50, 327), (54, 266), (67, 525), (70, 327), (73, 907)]
set_option maxRecDepth 100000 in
theorem ok_i_drawn : (tb_i_drawn).all (fun q => okB 15 q.1 q.2 (lxf lx_i_drawn q.1)) = true := by decide +kernel
def lx_i_undo : List (Nat × Nat) := [(1, 530), (5, 525), (8, 327), (11, 929), (18, 530), (21, 352)]
set_option maxRecDepth 100000 in
theorem ok_i_undo : (tb_i_undo).all (fun q => okB 16 q.1 q.2 (lxf lx_i_undo q.1)) = true := by decide +kernel
def lx_i_way : List (Nat × Nat) := [(4, 937), (11, 534), (15, 525), (18, 327), (28, 942)]
set_option maxRecDepth 100000 in
theorem ok_i_way : (tb_i_way).all (fun q => okB 17 q.1 q.2 (lxf lx_i_way q.1)) = true := by decide +kernel
def lx_i_canSetOut : List (Nat × Nat) := [(1, 525), (4, 323), (8, 791), (15, 525), (18, 323), (23, 757), (30, 525), (33, 327), (37, 941)]
set_option maxRecDepth 100000 in
theorem ok_i_canSetOut : (tb_i_canSetOut).all (fun q => okB 18 q.1 q.2 (lxf lx_i_canSetOut q.1)) = true := by decide +kernel
def lx_i_wayAt : List (Nat × Nat) := [(1, 534), (5, 965)]
set_option maxRecDepth 100000 in
theorem ok_i_wayAt : (tb_i_wayAt).all (fun q => okB 19 q.1 q.2 (lxf lx_i_wayAt q.1)) = true := by decide +kernel
def lx_i_bows : List (Nat × Nat) := [(4, 937), (11, 534), (15, 525), (18, 327), (28, 973)]
set_option maxRecDepth 100000 in
theorem ok_i_bows : (tb_i_bows).all (fun q => okB 20 q.1 q.2 (lxf lx_i_bows q.1)) = true := by decide +kernel
def lx_i_firm : List (Nat × Nat) := [(4, 937), (11, 534), (15, 525), (18, 327), (28, 986)]
set_option maxRecDepth 100000 in
theorem ok_i_firm : (tb_i_firm).all (fun q => okB 21 q.1 q.2 (lxf lx_i_firm q.1)) = true := by decide +kernel
def lx_i_swears : List (Nat × Nat) := [(1, 525), (4, 323), (8, 791), (17, 529), (21, 525), (24, 327), (27, 999), (31, 529), (35, 265), (41, 529), (44, 886), (47, 890), (59, 529), (62, 891), (66, 529), (69, 265)]
set_option maxRecDepth 100000 in
theorem ok_i_swears : (tb_i_swears).all (fun q => okB 22 q.1 q.2 (lxf lx_i_swears q.1)) = true := by decide +kernel
def lx_i_falls : List (Nat × Nat) := [(1, 525), (4, 323), (8, 791), (17, 525), (20, 327), (24, 941), (33, 529), (37, 525), (40, 327), (43, 999), (49, 529), (52, 886), (55, 890), (67, 529), (70, 891), (74, 529), (78, 941)]
set_option maxRecDepth 100000 in
theorem ok_i_falls : (tb_i_falls).all (fun q => okB 23 q.1 q.2 (lxf lx_i_falls q.1)) = true := by decide +kernel
def lx_i_odds : List (Nat × Nat) := [(1, 525), (4, 323), (8, 791), (33, 525), (36, 327), (39, 886), (42, 890), (57, 529), (61, 525), (64, 327), (67, 999), (71, 529), (78, 266), (92, 529), (96, 941), (103, 529), (106, 907), (116, 529), (120, 941)]
set_option maxRecDepth 100000 in
theorem ok_i_odds : (tb_i_odds).all (fun q => okB 24 q.1 q.2 (lxf lx_i_odds q.1)) = true := by decide +kernel
def lx_i_stands : List (Nat × Nat) := [(1, 525), (4, 323), (8, 791), (15, 525), (18, 327), (22, 941), (31, 525), (34, 327), (37, 242), (44, 525), (47, 327), (50, 237), (56, 525), (59, 327), (64, 761), (71, 525), (74, 323), (77, 185), (81, 525), (84, 327), (87, 249), (93, 1012)]
set_option maxRecDepth 100000 in
theorem ok_i_stands : (tb_i_stands).all (fun q => okB 25 q.1 q.2 (lxf lx_i_stands q.1)) = true := by decide +kernel
def lx_i_fair : List (Nat × Nat) := [(1, 525), (4, 327), (9, 1017), (29, 525), (32, 323), (37, 1021), (44, 237), (57, 1022)]
set_option maxRecDepth 100000 in
theorem ok_i_fair : (tb_i_fair).all (fun q => okB 26 q.1 q.2 (lxf lx_i_fair q.1)) = true := by decide +kernel
def lx_i_swore : List (Nat × Nat) := [(1, 524), (7, 524), (12, 1030), (26, 525), (29, 323), (32, 170), (39, 525), (42, 327), (46, 941), (55, 1034), (80, 1039), (83, 539)]
set_option maxRecDepth 100000 in
theorem ok_i_swore : (tb_i_swore).all (fun q => okB 27 q.1 q.2 (lxf lx_i_swore q.1)) = true := by decide +kernel
def lx_i_areTriples : List (Nat × Nat) := [(29, 525), (32, 323), (36, 523), (42, 523), (49, 757)]
set_option maxRecDepth 100000 in
theorem ok_i_areTriples : (tb_i_areTriples).all (fun q => okB 28 q.1 q.2 (lxf lx_i_areTriples q.1)) = true := by decide +kernel
def lx_i_explains : List (Nat × Nat) := [(12, 523), (21, 523), (30, 525), (33, 327), (39, 1038), (43, 523)]
set_option maxRecDepth 100000 in
theorem ok_i_explains : (tb_i_explains).all (fun q => okB 29 q.1 q.2 (lxf lx_i_explains q.1)) = true := by decide +kernel
def lx_i_bestQuestion : List (Nat × Nat) := [(15, 525), (18, 323), (23, 1021), (33, 1043)]
set_option maxRecDepth 100000 in
theorem ok_i_bestQuestion : (tb_i_bestQuestion).all (fun q => okB 30 q.1 q.2 (lxf lx_i_bestQuestion q.1)) = true := by decide +kernel
def lx_i_mostAlike : List (Nat × Nat) := [(8, 525), (11, 323), (14, 170), (29, 525), (32, 323), (35, 170), (60, 525), (63, 327), (69, 1038), (73, 525), (76, 327), (82, 1038), (100, 1012)]
set_option maxRecDepth 100000 in
theorem ok_i_mostAlike : (tb_i_mostAlike).all (fun q => okB 31 q.1 q.2 (lxf lx_i_mostAlike q.1)) = true := by decide +kernel
def lx_i_ask : List (Nat × Nat) := [(1, 539)]
set_option maxRecDepth 100000 in
theorem ok_i_ask : (tb_i_ask).all (fun q => okB 32 q.1 q.2 (lxf lx_i_ask q.1)) = true := by decide +kernel
def lx_i_book : List (Nat × Nat) := [(17, 591), (21, 533), (25, 531), (29, 525), (32, 323), (35, 1271), (40, 531), (43, 383), (46, 538), (50, 531), (53, 724), (62, 531), (65, 385), (71, 529), (75, 525), (78, 327), (81, 999), (85, 533), (89, 529), (92, 1309), (98, 1328), (111, 530), (115, 525), (118, 327), (121, 808), (125, 525), (128, 327), (132, 529), (135, 999), (139, 533), (142, 460)]
set_option maxRecDepth 100000 in
theorem ok_i_book : (tb_i_book).all (fun q => okB 33 q.1 q.2 (lxf lx_i_book q.1)) = true := by decide +kernel
def lx_i_noteJudged : List (Nat × Nat) := [(1, 536), (6, 533), (9, 460), (14, 536), (21, 536), (26, 529), (29, 257), (34, 536), (39, 529), (42, 252), (48, 537)]
set_option maxRecDepth 100000 in
theorem ok_i_noteJudged : (tb_i_noteJudged).all (fun q => okB 34 q.1 q.2 (lxf lx_i_noteJudged q.1)) = true := by decide +kernel
def lx_i_told : List (Nat × Nat) := [(1, 537), (17, 536)]
set_option maxRecDepth 100000 in
theorem ok_i_told : (tb_i_told).all (fun q => okB 35 q.1 q.2 (lxf lx_i_told q.1)) = true := by decide +kernel
def lx_i_sentence : List (Nat × Nat) := [(4, 591), (8, 526), (11, 329), (15, 531), (19, 525), (22, 323), (25, 1340), (30, 531), (33, 383), (36, 538), (40, 531), (43, 724), (51, 531), (54, 385), (60, 525), (63, 329), (67, 526), (70, 329), (73, 1388), (77, 525), (80, 329), (83, 310)]
set_option maxRecDepth 100000 in
theorem ok_i_sentence : (tb_i_sentence).all (fun q => okB 36 q.1 q.2 (lxf lx_i_sentence q.1)) = true := by decide +kernel
def lx_i_said : List (Nat × Nat) := [(1, 525), (4, 329), (7, 1393), (21, 525), (24, 323), (27, 170), (34, 525), (37, 329), (42, 525), (45, 327), (48, 1397)]
set_option maxRecDepth 100000 in
theorem ok_i_said : (tb_i_said).all (fun q => okB 37 q.1 q.2 (lxf lx_i_said q.1)) = true := by decide +kernel
def lx_i_image : List (Nat × Nat) := [(12, 527), (18, 525), (21, 725), (25, 528)]
set_option maxRecDepth 100000 in
theorem ok_i_image : (tb_i_image).all (fun q => okB 38 q.1 q.2 (lxf lx_i_image q.1)) = true := by decide +kernel
def lx_i_restore : List (Nat × Nat) := [(10, 528), (21, 525), (25, 527), (30, 725), (34, 530), (37, 745)]
set_option maxRecDepth 100000 in
theorem ok_i_restore : (tb_i_restore).all (fun q => okB 39 q.1 q.2 (lxf lx_i_restore q.1)) = true := by decide +kernel
def lx_m_thrown : List (Nat × Nat) := [(1, 1568)]
set_option maxRecDepth 100000 in
theorem ok_m_thrown : (tb_m_thrown).all (fun q => okB 40 q.1 q.2 (lxf lx_m_thrown q.1)) = true := by decide +kernel
def lx_m_throwsIf : List (Nat × Nat) := [(10, 1568)]
set_option maxRecDepth 100000 in
theorem ok_m_throwsIf : (tb_m_throwsIf).all (fun q => okB 41 q.1 q.2 (lxf lx_m_throwsIf q.1)) = true := by decide +kernel
def lx_m_feed : List (Nat × Nat) := [(2, 1568), (6, 1570), (22, 1520), (27, 1520), (32, 1520), (38, 1520), (44, 1520), (48, 1570)]
set_option maxRecDepth 100000 in
theorem ok_m_feed : (tb_m_feed).all (fun q => okB 42 q.1 q.2 (lxf lx_m_feed q.1)) = true := by decide +kernel
def lx_m_four : List (Nat × Nat) := [(8, 1569), (12, 1570), (22, 1570), (27, 1570)]
set_option maxRecDepth 100000 in
theorem ok_m_four : (tb_m_four).all (fun q => okB 43 q.1 q.2 (lxf lx_m_four q.1)) = true := by decide +kernel
def lx_m_end : List (Nat × Nat) := [(2, 1568), (11, 1570), (21, 1570)]
set_option maxRecDepth 100000 in
theorem ok_m_end : (tb_m_end).all (fun q => okB 44 q.1 q.2 (lxf lx_m_end q.1)) = true := by decide +kernel
def lx_m_taken : List (Nat × Nat) := [(2, 1570), (5, 1571), (10, 1570), (15, 1572), (20, 1573)]
set_option maxRecDepth 100000 in
theorem ok_m_taken : (tb_m_taken).all (fun q => okB 45 q.1 q.2 (lxf lx_m_taken q.1)) = true := by decide +kernel
def lx_m_isIn : List (Nat × Nat) := []
set_option maxRecDepth 100000 in
theorem ok_m_isIn : (tb_m_isIn).all (fun q => okB 46 q.1 q.2 (lxf lx_m_isIn q.1)) = true := by decide +kernel
def lx_m_bitOf : List (Nat × Nat) := []
set_option maxRecDepth 100000 in
theorem ok_m_bitOf : (tb_m_bitOf).all (fun q => okB 47 q.1 q.2 (lxf lx_m_bitOf q.1)) = true := by decide +kernel
def lx_m_lesser : List (Nat × Nat) := []
set_option maxRecDepth 100000 in
theorem ok_m_lesser : (tb_m_lesser).all (fun q => okB 48 q.1 q.2 (lxf lx_m_lesser q.1)) = true := by decide +kernel
