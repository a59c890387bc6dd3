def md_X12_thrown : List (Nat × Instr × Nat) := [(0, .aload_n 0, 1), (1, .getfield 1, 3), (4, .ireturn, 1)]
set_option maxRecDepth 20000 in
theorem me_X12_thrown : zdecs cX12_thrown md_X12_thrown := by
  unfold zdecs md_X12_thrown
  decide +kernel
def md_X12_refuse : List (Nat × Instr × Nat) := [(0, .aload_n 0, 1), (1, .iconst 1, 1), (2, .putfield 1, 3), (5, .iconst 0, 1), (6, .ireturn, 1)]
set_option maxRecDepth 20000 in
theorem me_X12_refuse : zdecs cX12_refuse md_X12_refuse := by
  unfold zdecs md_X12_refuse
  decide +kernel
def md_X12_come : List (Nat × Instr × Nat) := [(0, .bipush 24, 2), (2, .istore_n 2, 1), (3, .iload_n 2, 1), (4, .ifCond .lt 35, 3), (7, .aload_n 0, 1), (8, .getfield 7, 3), (11, .aload_n 0, 1), (12, .getfield 11, 3), (15, .iload_n 1, 1), (16, .iload_n 2, 1), (17, .iushr, 1), (18, .sipush 255, 3), (21, .iand, 1), (22, .iastore, 1), (23, .aload_n 0, 1), (24, .dup, 1), (25, .getfield 11, 3), (28, .iconst 1, 1), (29, .iadd, 1), (30, .putfield 11, 3), (33, .iinc 2 (-8), 3), (36, .goto (-33), 3), (39, .return_, 1)]
set_option maxRecDepth 20000 in
theorem me_X12_come : zdecs cX12_come md_X12_come := by
  unfold zdecs md_X12_come
  decide +kernel
def md_X12_feed : List (Nat × Instr × Nat) := [(0, .aload_n 0, 1), (1, .iconst 0, 1), (2, .putfield 1, 3), (5, .aload_n 0, 1), (6, .getfield 11, 3), (9, .bipush 20, 2), (11, .iadd, 1), (12, .sipush 940, 3), (15, .if_icmp .le 5, 3), (18, .iconst (-1), 1), (19, .ireturn, 1), (20, .aload_n 0, 1), (21, .iload_n 1, 1), (22, .invokevirtual 14, 3), (25, .aload_n 0, 1), (26, .iload_n 2, 1), (27, .invokevirtual 14, 3), (30, .aload_n 0, 1), (31, .iload_n 3, 1), (32, .invokevirtual 14, 3), (35, .aload_n 0, 1), (36, .iload 4, 2), (38, .invokevirtual 14, 3), (41, .aload_n 0, 1), (42, .iload 5, 2), (44, .invokevirtual 14, 3), (47, .aload_n 0, 1), (48, .getfield 11, 3), (51, .ireturn, 1)]
set_option maxRecDepth 20000 in
theorem me_X12_feed : zdecs cX12_feed md_X12_feed := by
  unfold zdecs md_X12_feed
  decide +kernel
def md_X12_end : List (Nat × Instr × Nat) := [(0, .aload_n 0, 1), (1, .iconst 0, 1), (2, .putfield 1, 3), (5, .iload_n 1, 1), (6, .ifCond .lt 11, 3), (9, .iload_n 1, 1), (10, .aload_n 0, 1), (11, .getfield 11, 3), (14, .if_icmp .le 5, 3), (17, .iconst 0, 1), (18, .ireturn, 1), (19, .aload_n 0, 1), (20, .iload_n 1, 1), (21, .putfield 11, 3), (24, .iconst 1, 1), (25, .ireturn, 1)]
set_option maxRecDepth 20000 in
theorem me_X12_end : zdecs cX12_end md_X12_end := by
  unfold zdecs md_X12_end
  decide +kernel
def md_X12_take : List (Nat × Instr × Nat) := [(0, .aload_n 0, 1), (1, .getfield 11, 3), (4, .istore_n 1, 1), (5, .aload_n 0, 1), (6, .iconst 0, 1), (7, .putfield 11, 3), (10, .iload_n 1, 1), (11, .ireturn, 1)]
set_option maxRecDepth 20000 in
theorem me_X12_take : zdecs cX12_take md_X12_take := by
  unfold zdecs md_X12_take
  decide +kernel
def md_X12_isIn : List (Nat × Instr × Nat) := [(0, .iload_n 0, 1), (1, .iload_n 1, 1), (2, .if_icmp .lt 12, 3), (5, .iload_n 0, 1), (6, .iload_n 2, 1), (7, .if_icmp .gt 7, 3), (10, .iconst 1, 1), (11, .goto 4, 3), (14, .iconst 0, 1), (15, .ireturn, 1)]
set_option maxRecDepth 20000 in
theorem me_X12_isIn : zdecs cX12_isIn md_X12_isIn := by
  unfold zdecs md_X12_isIn
  decide +kernel
def md_X12_has : List (Nat × Instr × Nat) := [(0, .iload_n 0, 1), (1, .iload_n 1, 1), (2, .ishr, 1), (3, .iconst 1, 1), (4, .iand, 1), (5, .iconst 1, 1), (6, .if_icmp .ne 7, 3), (9, .iconst 1, 1), (10, .goto 4, 3), (13, .iconst 0, 1), (14, .ireturn, 1)]
set_option maxRecDepth 20000 in
theorem me_X12_has : zdecs cX12_has md_X12_has := by
  unfold zdecs md_X12_has
  decide +kernel
def md_X12_bits : List (Nat × Instr × Nat) := [(0, .iconst 0, 1), (1, .istore_n 1, 1), (2, .iload_n 0, 1), (3, .istore_n 2, 1), (4, .iload_n 2, 1), (5, .ifCond .eq 15, 3), (8, .iinc 1 1, 3), (11, .iload_n 2, 1), (12, .iload_n 2, 1), (13, .iconst 1, 1), (14, .isub, 1), (15, .iand, 1), (16, .istore_n 2, 1), (17, .goto (-13), 3), (20, .iload_n 1, 1), (21, .ireturn, 1)]
set_option maxRecDepth 20000 in
theorem me_X12_bits : zdecs cX12_bits md_X12_bits := by
  unfold zdecs md_X12_bits
  decide +kernel
def md_X12_least : List (Nat × Instr × Nat) := [(0, .iload_n 0, 1), (1, .iload_n 1, 1), (2, .if_icmp .ge 7, 3), (5, .iload_n 0, 1), (6, .goto 4, 3), (9, .iload_n 1, 1), (10, .ireturn, 1)]
set_option maxRecDepth 20000 in
theorem me_X12_least : zdecs cX12_least md_X12_least := by
  unfold zdecs md_X12_least
  decide +kernel
def md_X12_size : List (Nat × Instr × Nat) := [(0, .iload_n 0, 1), (1, .ifCond .ge 8, 3), (4, .iload_n 0, 1), (5, .ineg, 1), (6, .goto 4, 3), (9, .iload_n 0, 1), (10, .ireturn, 1)]
set_option maxRecDepth 20000 in
theorem me_X12_size : zdecs cX12_size md_X12_size := by
  unfold zdecs md_X12_size
  decide +kernel
def md_X12_common : List (Nat × Instr × Nat) := [(0, .iload_n 0, 1), (1, .istore_n 2, 1), (2, .iload_n 1, 1), (3, .istore_n 3, 1), (4, .iload_n 3, 1), (5, .ifCond .eq 16, 3), (8, .iload_n 2, 1), (9, .iload_n 3, 1), (10, .irem, 1), (11, .istore 4, 2), (13, .iload_n 3, 1), (14, .istore_n 2, 1), (15, .iload 4, 2), (17, .istore_n 3, 1), (18, .goto (-14), 3), (21, .iload_n 2, 1), (22, .ireturn, 1)]
set_option maxRecDepth 20000 in
theorem me_X12_common : zdecs cX12_common md_X12_common := by
  unfold zdecs md_X12_common
  decide +kernel
def md_X12_tapeAt : List (Nat × Instr × Nat) := [(0, .iload_n 1, 1), (1, .aload_n 0, 1), (2, .getfield 18, 3), (5, .if_icmp .ge 12, 3), (8, .aload_n 0, 1), (9, .getfield 7, 3), (12, .iload_n 1, 1), (13, .iaload, 1), (14, .goto 4, 3), (17, .iconst 0, 1), (18, .ireturn, 1)]
set_option maxRecDepth 20000 in
theorem me_X12_tapeAt : zdecs cX12_tapeAt md_X12_tapeAt := by
  unfold zdecs md_X12_tapeAt
  decide +kernel
def md_X12_isDigit : List (Nat × Instr × Nat) := [(0, .iload_n 0, 1), (1, .bipush 48, 2), (3, .if_icmp .lt 13, 3), (6, .iload_n 0, 1), (7, .bipush 57, 2), (9, .if_icmp .gt 7, 3), (12, .iconst 1, 1), (13, .goto 4, 3), (16, .iconst 0, 1), (17, .ireturn, 1)]
set_option maxRecDepth 20000 in
theorem me_X12_isDigit : zdecs cX12_isDigit md_X12_isDigit := by
  unfold zdecs md_X12_isDigit
  decide +kernel
def md_X12_isLetter : List (Nat × Instr × Nat) := [(0, .iload_n 0, 1), (1, .bipush 97, 2), (3, .if_icmp .lt 13, 3), (6, .iload_n 0, 1), (7, .bipush 122, 2), (9, .if_icmp .gt 7, 3), (12, .iconst 1, 1), (13, .goto 4, 3), (16, .iconst 0, 1), (17, .ireturn, 1)]
set_option maxRecDepth 20000 in
theorem me_X12_isLetter : zdecs cX12_isLetter md_X12_isLetter := by
  unfold zdecs md_X12_isLetter
  decide +kernel
def md_X12_go : List (Nat × Instr × Nat) := [(0, .aload_n 0, 1), (1, .getfield 21, 3), (4, .aload_n 0, 1), (5, .getfield 18, 3), (8, .if_icmp .ge 44, 3), (11, .aload_n 0, 1), (12, .getfield 7, 3), (15, .aload_n 0, 1), (16, .getfield 21, 3), (19, .iaload, 1), (20, .bipush 32, 2), (22, .if_icmp .eq 17, 3), (25, .aload_n 0, 1), (26, .getfield 7, 3), (29, .aload_n 0, 1), (30, .getfield 21, 3), (33, .iaload, 1), (34, .bipush 10, 2), (36, .if_icmp .ne 16, 3), (39, .aload_n 0, 1), (40, .dup, 1), (41, .getfield 21, 3), (44, .iconst 1, 1), (45, .iadd, 1), (46, .putfield 21, 3), (49, .goto (-49), 3), (52, .aload_n 0, 1), (53, .aload_n 0, 1), (54, .getfield 21, 3), (57, .putfield 24, 3), (60, .aload_n 0, 1), (61, .getfield 18, 3), (64, .aload_n 0, 1), (65, .getfield 27, 3), (68, .if_icmp .le 28, 3), (71, .aload_n 0, 1), (72, .getfield 24, 3), (75, .aload_n 0, 1), (76, .getfield 27, 3), (79, .if_icmp .lt 17, 3), (82, .aload_n 0, 1), (83, .aload_n 0, 1), (84, .getfield 27, 3), (87, .putfield 24, 3), (90, .aload_n 0, 1), (91, .iconst 1, 1), (92, .putfield 30, 3), (95, .return_, 1), (96, .aload_n 0, 1), (97, .getfield 21, 3), (100, .aload_n 0, 1), (101, .getfield 18, 3), (104, .if_icmp .lt 9, 3), (107, .aload_n 0, 1), (108, .iconst 0, 1), (109, .putfield 30, 3), (112, .return_, 1), (113, .aload_n 0, 1), (114, .getfield 7, 3), (117, .aload_n 0, 1), (118, .getfield 21, 3), (121, .iaload, 1), (122, .istore_n 1, 1), (123, .iload_n 1, 1), (124, .invokestatic 33, 3), (127, .ifCond .ne 71, 3), (130, .iload_n 1, 1), (131, .invokestatic 37, 3), (134, .ifCond .ne 64, 3), (137, .aload_n 0, 1), (138, .iload_n 1, 1), (139, .bipush 59, 2), (141, .if_icmp .eq 33, 3), (144, .iload_n 1, 1), (145, .bipush 60, 2), (147, .if_icmp .eq 27, 3), (150, .iload_n 1, 1), (151, .bipush 61, 2), (153, .if_icmp .eq 21, 3), (156, .iload_n 1, 1), (157, .bipush 62, 2), (159, .if_icmp .eq 15, 3), (162, .iload_n 1, 1), (163, .bipush 40, 2), (165, .if_icmp .eq 9, 3), (168, .iload_n 1, 1), (169, .bipush 41, 2), (171, .if_icmp .ne 7, 3), (174, .iconst 4, 1), (175, .goto 4, 3), (178, .iconst 1, 1), (179, .putfield 30, 3), (182, .aload_n 0, 1), (183, .iload_n 1, 1), (184, .putfield 40, 3), (187, .aload_n 0, 1), (188, .dup, 1), (189, .getfield 21, 3), (192, .iconst 1, 1), (193, .iadd, 1), (194, .putfield 21, 3), (197, .return_, 1), (198, .iload_n 1, 1), (199, .invokestatic 33, 3), (202, .istore_n 2, 1), (203, .iconst 1, 1), (204, .istore_n 3, 1), (205, .aload_n 0, 1), (206, .lconst 0, 1), (207, .putfield 43, 3), (210, .aload_n 0, 1), (211, .iconst 0, 1), (212, .putfield 47, 3), (215, .aload_n 0, 1), (216, .aload_n 0, 1), (217, .getfield 21, 3), (220, .invokevirtual 50, 3), (223, .invokestatic 33, 3), (226, .ifCond .ne 17, 3), (229, .aload_n 0, 1), (230, .aload_n 0, 1), (231, .getfield 21, 3), (234, .invokevirtual 50, 3), (237, .invokestatic 37, 3), (240, .ifCond .eq 110, 3), (243, .aload_n 0, 1), (244, .getfield 7, 3), (247, .aload_n 0, 1), (248, .getfield 21, 3), (251, .iaload, 1), (252, .istore 4, 2), (254, .iload_n 3, 1), (255, .ifCond .eq 16, 3), (258, .iload 4, 2), (260, .invokestatic 33, 3), (263, .iload_n 2, 1), (264, .if_icmp .ne 7, 3), (267, .iconst 1, 1), (268, .goto 4, 3), (271, .iconst 0, 1), (272, .istore_n 3, 1), (273, .aload_n 0, 1), (274, .getfield 21, 3), (277, .aload_n 0, 1), (278, .getfield 24, 3), (281, .isub, 1), (282, .bipush 7, 2), (284, .if_icmp .ge 23, 3), (287, .aload_n 0, 1), (288, .ldc2_w 54, 3), (291, .aload_n 0, 1), (292, .getfield 43, 3), (295, .lmul, 1), (296, .iload 4, 2), (298, .i2l, 1), (299, .ladd, 1), (300, .ldc2_w 56, 3), (303, .lsub, 1), (304, .putfield 43, 3), (307, .aload_n 0, 1), (308, .getfield 21, 3), (311, .aload_n 0, 1), (312, .getfield 24, 3), (315, .isub, 1), (316, .iconst 3, 1), (317, .if_icmp .ge 20, 3), (320, .aload_n 0, 1), (321, .bipush 10, 2), (323, .aload_n 0, 1), (324, .getfield 47, 3), (327, .imul, 1), (328, .iload 4, 2), (330, .iadd, 1), (331, .bipush 48, 2), (333, .isub, 1), (334, .putfield 47, 3), (337, .aload_n 0, 1), (338, .dup, 1), (339, .getfield 21, 3), (342, .iconst 1, 1), (343, .iadd, 1), (344, .putfield 21, 3), (347, .goto (-132), 3), (350, .aload_n 0, 1), (351, .iload_n 3, 1), (352, .ifCond .eq 25, 3), (355, .aload_n 0, 1), (356, .getfield 21, 3), (359, .aload_n 0, 1), (360, .getfield 24, 3), (363, .isub, 1), (364, .iload_n 2, 1), (365, .ifCond .eq 8, 3), (368, .bipush 7, 2), (370, .goto 4, 3), (373, .iconst 3, 1), (374, .if_icmp .le 7, 3), (377, .iconst 1, 1), (378, .goto 12, 3), (381, .iload_n 2, 1), (382, .ifCond .eq 7, 3), (385, .iconst 2, 1), (386, .goto 4, 3), (389, .iconst 3, 1), (390, .putfield 30, 3), (393, .return_, 1)]
set_option maxRecDepth 20000 in
theorem me_X12_go : zdecs cX12_go md_X12_go := by
  unfold zdecs md_X12_go
  decide +kernel
def md_X12_spelt : List (Nat × Instr × Nat) := [(0, .ldc2_w 54, 3), (3, .iload_n 0, 1), (4, .i2l, 1), (5, .ldc2_w 56, 3), (8, .lsub, 1), (9, .lmul, 1), (10, .iload_n 1, 1), (11, .i2l, 1), (12, .ladd, 1), (13, .ldc2_w 56, 3), (16, .lsub, 1), (17, .lstore 7, 2), (19, .iload_n 2, 1), (20, .ifCond .le 18, 3), (23, .ldc2_w 54, 3), (26, .lload 7, 2), (28, .lmul, 1), (29, .iload_n 2, 1), (30, .i2l, 1), (31, .ladd, 1), (32, .ldc2_w 56, 3), (35, .lsub, 1), (36, .lstore 7, 2), (38, .iload_n 3, 1), (39, .ifCond .le 18, 3), (42, .ldc2_w 54, 3), (45, .lload 7, 2), (47, .lmul, 1), (48, .iload_n 3, 1), (49, .i2l, 1), (50, .ladd, 1), (51, .ldc2_w 56, 3), (54, .lsub, 1), (55, .lstore 7, 2), (57, .iload 4, 2), (59, .ifCond .le 19, 3), (62, .ldc2_w 54, 3), (65, .lload 7, 2), (67, .lmul, 1), (68, .iload 4, 2), (70, .i2l, 1), (71, .ladd, 1), (72, .ldc2_w 56, 3), (75, .lsub, 1), (76, .lstore 7, 2), (78, .iload 5, 2), (80, .ifCond .le 19, 3), (83, .ldc2_w 54, 3), (86, .lload 7, 2), (88, .lmul, 1), (89, .iload 5, 2), (91, .i2l, 1), (92, .ladd, 1), (93, .ldc2_w 56, 3), (96, .lsub, 1), (97, .lstore 7, 2), (99, .iload 6, 2), (101, .ifCond .le 19, 3), (104, .ldc2_w 54, 3), (107, .lload 7, 2), (109, .lmul, 1), (110, .iload 6, 2), (112, .i2l, 1), (113, .ladd, 1), (114, .ldc2_w 56, 3), (117, .lsub, 1), (118, .lstore 7, 2), (120, .lload 7, 2), (122, .lreturn, 1)]
set_option maxRecDepth 20000 in
theorem me_X12_spelt : zdecs cX12_spelt md_X12_spelt := by
  unfold zdecs md_X12_spelt
  decide +kernel
def md_X12_wordOf : List (Nat × Instr × Nat) := [(0, .iload_n 0, 1), (1, .tableswitch 459 0 22 #[107, 122, 138, 154, 170, 185, 201, 217, 232, 248, 264, 281, 294, 308, 322, 340, 355, 372, 387, 400, 413, 428, 443], 107), (108, .bipush 98, 2), (110, .bipush 97, 2), (112, .bipush 116, 2), (114, .bipush 104, 2), (116, .iconst 0, 1), (117, .iconst 0, 1), (118, .iconst 0, 1), (119, .invokestatic 58, 3), (122, .lreturn, 1), (123, .bipush 112, 2), (125, .bipush 97, 2), (127, .bipush 112, 2), (129, .bipush 101, 2), (131, .bipush 114, 2), (133, .iconst 0, 1), (134, .iconst 0, 1), (135, .invokestatic 58, 3), (138, .lreturn, 1), (139, .bipush 115, 2), (141, .bipush 104, 2), (143, .bipush 101, 2), (145, .bipush 101, 2), (147, .bipush 116, 2), (149, .iconst 0, 1), (150, .iconst 0, 1), (151, .invokestatic 58, 3), (154, .lreturn, 1), (155, .bipush 115, 2), (157, .bipush 112, 2), (159, .bipush 97, 2), (161, .bipush 114, 2), (163, .bipush 101, 2), (165, .iconst 0, 1), (166, .iconst 0, 1), (167, .invokestatic 58, 3), (170, .lreturn, 1), (171, .bipush 119, 2), (173, .bipush 101, 2), (175, .bipush 97, 2), (177, .bipush 107, 2), (179, .iconst 0, 1), (180, .iconst 0, 1), (181, .iconst 0, 1), (182, .invokestatic 58, 3), (185, .lreturn, 1), (186, .bipush 102, 2), (188, .bipush 114, 2), (190, .bipush 101, 2), (192, .bipush 115, 2), (194, .bipush 104, 2), (196, .iconst 0, 1), (197, .iconst 0, 1), (198, .invokestatic 58, 3), (201, .lreturn, 1), (202, .bipush 115, 2), (204, .bipush 116, 2), (206, .bipush 97, 2), (208, .bipush 114, 2), (210, .bipush 116, 2), (212, .iconst 0, 1), (213, .iconst 0, 1), (214, .invokestatic 58, 3), (217, .lreturn, 1), (218, .bipush 116, 2), (220, .bipush 97, 2), (222, .bipush 107, 2), (224, .bipush 101, 2), (226, .iconst 0, 1), (227, .iconst 0, 1), (228, .iconst 0, 1), (229, .invokestatic 58, 3), (232, .lreturn, 1), (233, .bipush 97, 2), (235, .bipush 103, 2), (237, .bipush 97, 2), (239, .bipush 105, 2), (241, .bipush 110, 2), (243, .iconst 0, 1), (244, .iconst 0, 1), (245, .invokestatic 58, 3), (248, .lreturn, 1), (249, .bipush 114, 2), (251, .bipush 101, 2), (253, .bipush 110, 2), (255, .bipush 101, 2), (257, .bipush 119, 2), (259, .iconst 0, 1), (260, .iconst 0, 1), (261, .invokestatic 58, 3), (264, .lreturn, 1), (265, .bipush 109, 2), (267, .bipush 105, 2), (269, .bipush 110, 2), (271, .bipush 117, 2), (273, .bipush 116, 2), (275, .bipush 101, 2), (277, .iconst 0, 1), (278, .invokestatic 58, 3), (281, .lreturn, 1), (282, .bipush 111, 2), (284, .bipush 114, 2), (286, .iconst 0, 1), (287, .iconst 0, 1), (288, .iconst 0, 1), (289, .iconst 0, 1), (290, .iconst 0, 1), (291, .invokestatic 58, 3), (294, .lreturn, 1), (295, .bipush 97, 2), (297, .bipush 110, 2), (299, .bipush 100, 2), (301, .iconst 0, 1), (302, .iconst 0, 1), (303, .iconst 0, 1), (304, .iconst 0, 1), (305, .invokestatic 58, 3), (308, .lreturn, 1), (309, .bipush 110, 2), (311, .bipush 111, 2), (313, .bipush 116, 2), (315, .iconst 0, 1), (316, .iconst 0, 1), (317, .iconst 0, 1), (318, .iconst 0, 1), (319, .invokestatic 58, 3), (322, .lreturn, 1), (323, .bipush 119, 2), (325, .bipush 97, 2), (327, .bipush 105, 2), (329, .bipush 116, 2), (331, .bipush 105, 2), (333, .bipush 110, 2), (335, .bipush 103, 2), (337, .invokestatic 58, 3), (340, .lreturn, 1), (341, .bipush 100, 2), (343, .bipush 111, 2), (345, .bipush 110, 2), (347, .bipush 101, 2), (349, .iconst 0, 1), (350, .iconst 0, 1), (351, .iconst 0, 1), (352, .invokestatic 58, 3), (355, .lreturn, 1), (356, .bipush 115, 2), (358, .bipush 112, 2), (360, .bipush 111, 2), (362, .bipush 105, 2), (364, .bipush 108, 2), (366, .bipush 116, 2), (368, .iconst 0, 1), (369, .invokestatic 58, 3), (372, .lreturn, 1), (373, .bipush 104, 2), (375, .bipush 101, 2), (377, .bipush 108, 2), (379, .bipush 100, 2), (381, .iconst 0, 1), (382, .iconst 0, 1), (383, .iconst 0, 1), (384, .invokestatic 58, 3), (387, .lreturn, 1), (388, .bipush 105, 2), (390, .bipush 110, 2), (392, .iconst 0, 1), (393, .iconst 0, 1), (394, .iconst 0, 1), (395, .iconst 0, 1), (396, .iconst 0, 1), (397, .invokestatic 58, 3), (400, .lreturn, 1), (401, .bipush 111, 2), (403, .bipush 102, 2), (405, .iconst 0, 1), (406, .iconst 0, 1), (407, .iconst 0, 1), (408, .iconst 0, 1), (409, .iconst 0, 1), (410, .invokestatic 58, 3), (413, .lreturn, 1), (414, .bipush 108, 2), (416, .bipush 101, 2), (418, .bipush 102, 2), (420, .bipush 116, 2), (422, .iconst 0, 1), (423, .iconst 0, 1), (424, .iconst 0, 1), (425, .invokestatic 58, 3), (428, .lreturn, 1), (429, .bipush 111, 2), (431, .bipush 118, 2), (433, .bipush 101, 2), (435, .bipush 114, 2), (437, .iconst 0, 1), (438, .iconst 0, 1), (439, .iconst 0, 1), (440, .invokestatic 58, 3), (443, .lreturn, 1), (444, .bipush 116, 2), (446, .bipush 114, 2), (448, .bipush 105, 2), (450, .bipush 101, 2), (452, .bipush 115, 2), (454, .iconst 0, 1), (455, .iconst 0, 1), (456, .invokestatic 58, 3), (459, .lreturn, 1), (460, .bipush 110, 2), (462, .bipush 117, 2), (464, .bipush 109, 2), (466, .bipush 98, 2), (468, .bipush 101, 2), (470, .bipush 114, 2), (472, .iconst 0, 1), (473, .invokestatic 58, 3), (476, .lreturn, 1)]
set_option maxRecDepth 20000 in
theorem me_X12_wordOf : zdecs cX12_wordOf md_X12_wordOf := by
  unfold zdecs md_X12_wordOf
  decide +kernel
def md_X12_isWord : List (Nat × Instr × Nat) := [(0, .aload_n 0, 1), (1, .getfield 30, 3), (4, .iconst 2, 1), (5, .if_icmp .ne 19, 3), (8, .aload_n 0, 1), (9, .getfield 43, 3), (12, .iload_n 1, 1), (13, .invokestatic 62, 3), (16, .lcmp, 1), (17, .ifCond .ne 7, 3), (20, .iconst 1, 1), (21, .goto 4, 3), (24, .iconst 0, 1), (25, .ireturn, 1)]
set_option maxRecDepth 20000 in
theorem me_X12_isWord : zdecs cX12_isWord md_X12_isWord := by
  unfold zdecs md_X12_isWord
  decide +kernel
def md_X12_isSign : List (Nat × Instr × Nat) := [(0, .aload_n 0, 1), (1, .getfield 30, 3), (4, .iconst 4, 1), (5, .if_icmp .ne 15, 3), (8, .aload_n 0, 1), (9, .getfield 40, 3), (12, .iload_n 1, 1), (13, .if_icmp .ne 7, 3), (16, .iconst 1, 1), (17, .goto 4, 3), (20, .iconst 0, 1), (21, .ireturn, 1)]
set_option maxRecDepth 20000 in
theorem me_X12_isSign : zdecs cX12_isSign md_X12_isSign := by
  unfold zdecs md_X12_isSign
  decide +kernel
def md_X12_isName : List (Nat × Instr × Nat) := [(0, .aload_n 0, 1), (1, .getfield 30, 3), (4, .iconst 2, 1), (5, .if_icmp .eq 5, 3), (8, .iconst 0, 1), (9, .ireturn, 1), (10, .iconst 0, 1), (11, .istore_n 1, 1), (12, .iload_n 1, 1), (13, .bipush 23, 2), (15, .if_icmp .gt 23, 3), (18, .aload_n 0, 1), (19, .getfield 43, 3), (22, .iload_n 1, 1), (23, .invokestatic 62, 3), (26, .lcmp, 1), (27, .ifCond .ne 5, 3), (30, .iconst 0, 1), (31, .ireturn, 1), (32, .iinc 1 1, 3), (35, .goto (-23), 3), (38, .iconst 1, 1), (39, .ireturn, 1)]
set_option maxRecDepth 20000 in
theorem me_X12_isName : zdecs cX12_isName md_X12_isName := by
  unfold zdecs md_X12_isName
  decide +kernel
def md_X12_bad : List (Nat × Instr × Nat) := [(0, .aload_n 0, 1), (1, .aload_n 0, 1), (2, .getfield 30, 3), (5, .iconst 1, 1), (6, .if_icmp .ne 7, 3), (9, .iconst 1, 1), (10, .goto 4, 3), (13, .iload_n 1, 1), (14, .putfield 66, 3), (17, .aload_n 0, 1), (18, .aload_n 0, 1), (19, .getfield 24, 3), (22, .putfield 69, 3), (25, .iconst 0, 1), (26, .ireturn, 1)]
set_option maxRecDepth 20000 in
theorem me_X12_bad : zdecs cX12_bad md_X12_bad := by
  unfold zdecs md_X12_bad
  decide +kernel
def md_X12_readNumber : List (Nat × Instr × Nat) := [(0, .aload_n 0, 1), (1, .getfield 30, 3), (4, .iconst 3, 1), (5, .if_icmp .eq 9, 3), (8, .aload_n 0, 1), (9, .iconst 1, 1), (10, .invokevirtual 72, 3), (13, .ireturn, 1), (14, .aload_n 0, 1), (15, .getfield 47, 3), (18, .iload_n 1, 1), (19, .iload_n 2, 1), (20, .invokestatic 75, 3), (23, .ifCond .ne 9, 3), (26, .aload_n 0, 1), (27, .iconst 2, 1), (28, .invokevirtual 72, 3), (31, .ireturn, 1), (32, .aload_n 0, 1), (33, .aload_n 0, 1), (34, .getfield 47, 3), (37, .putfield 79, 3), (40, .aload_n 0, 1), (41, .invokevirtual 82, 3), (44, .iconst 1, 1), (45, .ireturn, 1)]
set_option maxRecDepth 20000 in
theorem me_X12_readNumber : zdecs cX12_readNumber md_X12_readNumber := by
  unfold zdecs md_X12_readNumber
  decide +kernel
def md_X12_readEnd : List (Nat × Instr × Nat) := [(0, .aload_n 0, 1), (1, .bipush 59, 2), (3, .invokevirtual 86, 3), (6, .ifCond .ne 9, 3), (9, .aload_n 0, 1), (10, .iconst 1, 1), (11, .invokevirtual 72, 3), (14, .ireturn, 1), (15, .aload_n 0, 1), (16, .invokevirtual 82, 3), (19, .iconst 1, 1), (20, .ireturn, 1)]
set_option maxRecDepth 20000 in
theorem me_X12_readEnd : zdecs cX12_readEnd md_X12_readEnd := by
  unfold zdecs md_X12_readEnd
  decide +kernel
def md_X12_begin : List (Nat × Instr × Nat) := [(0, .aload_n 0, 1), (1, .iconst 0, 1), (2, .putfield 1, 3), (5, .aload_n 0, 1), (6, .aload_n 0, 1), (7, .invokevirtual 89, 3), (10, .putfield 18, 3), (13, .aload_n 0, 1), (14, .iload_n 1, 1), (15, .putfield 27, 3), (18, .aload_n 0, 1), (19, .iconst 0, 1), (20, .putfield 66, 3), (23, .aload_n 0, 1), (24, .iconst 0, 1), (25, .putfield 21, 3), (28, .aload_n 0, 1), (29, .invokevirtual 82, 3), (32, .return_, 1)]
set_option maxRecDepth 20000 in
theorem me_X12_begin : zdecs cX12_begin md_X12_begin := by
  unfold zdecs md_X12_begin
  decide +kernel
def md_X12_init : List (Nat × Instr × Nat) := [(0, .aload_n 0, 1), (1, .invokespecial 93, 3), (4, .aload_n 0, 1), (5, .sipush 940, 3), (8, .newarray .int, 2), (10, .putfield 7, 3), (13, .aload_n 0, 1), (14, .sipush 354, 3), (17, .newarray .int, 2), (19, .putfield 98, 3), (22, .aload_n 0, 1), (23, .bipush 56, 2), (25, .newarray .int, 2), (27, .putfield 101, 3), (30, .aload_n 0, 1), (31, .sipush 708, 3), (34, .newarray .int, 2), (36, .putfield 104, 3), (39, .aload_n 0, 1), (40, .sipush 448, 3), (43, .newarray .int, 2), (45, .putfield 107, 3), (48, .aload_n 0, 1), (49, .bipush 56, 2), (51, .newarray .int, 2), (53, .putfield 110, 3), (56, .aload_n 0, 1), (57, .bipush 56, 2), (59, .newarray .int, 2), (61, .putfield 113, 3), (64, .aload_n 0, 1), (65, .bipush 56, 2), (67, .newarray .int, 2), (69, .putfield 116, 3), (72, .aload_n 0, 1), (73, .bipush 19, 2), (75, .newarray .long, 2), (77, .putfield 119, 3), (80, .aload_n 0, 1), (81, .bipush 19, 2), (83, .newarray .long, 2), (85, .putfield 123, 3), (88, .aload_n 0, 1), (89, .bipush 38, 2), (91, .newarray .long, 2), (93, .putfield 126, 3), (96, .aload_n 0, 1), (97, .iconst 2, 1), (98, .newarray .boolean, 2), (100, .putfield 129, 3), (103, .aload_n 0, 1), (104, .iconst 3, 1), (105, .newarray .int, 2), (107, .putfield 133, 3), (110, .aload_n 0, 1), (111, .iconst 3, 1), (112, .newarray .int, 2), (114, .putfield 136, 3), (117, .aload_n 0, 1), (118, .iconst 3, 1), (119, .newarray .int, 2), (121, .putfield 139, 3), (124, .aload_n 0, 1), (125, .iconst 3, 1), (126, .newarray .int, 2), (128, .putfield 142, 3), (131, .aload_n 0, 1), (132, .iconst 3, 1), (133, .newarray .int, 2), (135, .putfield 145, 3), (138, .aload_n 0, 1), (139, .iconst 3, 1), (140, .newarray .int, 2), (142, .putfield 148, 3), (145, .aload_n 0, 1), (146, .iconst (-1), 1), (147, .putfield 151, 3), (150, .aload_n 0, 1), (151, .iconst 5, 1), (152, .newarray .int, 2), (154, .putfield 154, 3), (157, .aload_n 0, 1), (158, .iconst 5, 1), (159, .newarray .int, 2), (161, .putfield 157, 3), (164, .aload_n 0, 1), (165, .bipush 48, 2), (167, .newarray .int, 2), (169, .putfield 160, 3), (172, .aload_n 0, 1), (173, .bipush 80, 2), (175, .newarray .int, 2), (177, .putfield 163, 3), (180, .aload_n 0, 1), (181, .iconst 4, 1), (182, .newarray .int, 2), (184, .putfield 166, 3), (187, .aload_n 0, 1), (188, .sipush 240, 3), (191, .newarray .int, 2), (193, .putfield 169, 3), (196, .aload_n 0, 1), (197, .getfield 98, 3), (200, .iconst 5, 1), (201, .iconst 5, 1), (202, .iastore, 1), (203, .aload_n 0, 1), (204, .invokevirtual 172, 3), (207, .return_, 1)]
set_option maxRecDepth 20000 in
theorem me_X12_init : zdecs cX12_init md_X12_init := by
  unfold zdecs md_X12_init
  decide +kernel
def md_X12_startSo : List (Nat × Instr × Nat) := [(0, .bipush 56, 2), (2, .istore_n 1, 1), (3, .iload_n 1, 1), (4, .sipush 354, 3), (7, .if_icmp .ge 16, 3), (10, .aload_n 0, 1), (11, .getfield 98, 3), (14, .iload_n 1, 1), (15, .iconst 0, 1), (16, .iastore, 1), (17, .iinc 1 1, 3), (20, .goto (-17), 3), (23, .aload_n 0, 1), (24, .getfield 98, 3), (27, .bipush 57, 2), (29, .aload_n 0, 1), (30, .getfield 98, 3), (33, .iconst 5, 1), (34, .iaload, 1), (35, .iastore, 1), (36, .iconst 0, 1), (37, .istore_n 1, 1), (38, .iload_n 1, 1), (39, .bipush 8, 2), (41, .if_icmp .ge 19, 3), (44, .aload_n 0, 1), (45, .getfield 98, 3), (48, .bipush 72, 2), (50, .iload_n 1, 1), (51, .iadd, 1), (52, .iconst (-1), 1), (53, .iastore, 1), (54, .iinc 1 1, 3), (57, .goto (-19), 3), (60, .return_, 1)]
set_option maxRecDepth 20000 in
theorem me_X12_startSo : zdecs cX12_startSo md_X12_startSo := by
  unfold zdecs md_X12_startSo
  decide +kernel
def md_X12_findIn : List (Nat × Instr × Nat) := [(0, .iconst 0, 1), (1, .istore 5, 2), (3, .iload 5, 2), (5, .iload_n 2, 1), (6, .if_icmp .ge 23, 3), (9, .aload_n 0, 1), (10, .iload_n 1, 1), (11, .iload 5, 2), (13, .iadd, 1), (14, .laload, 1), (15, .lload_n 3, 1), (16, .lcmp, 1), (17, .ifCond .ne 6, 3), (20, .iload 5, 2), (22, .ireturn, 1), (23, .iinc 5 1, 3), (26, .goto (-23), 3), (29, .iconst (-1), 1), (30, .ireturn, 1)]
set_option maxRecDepth 20000 in
theorem me_X12_findIn : zdecs cX12_findIn md_X12_findIn := by
  unfold zdecs md_X12_findIn
  decide +kernel
def md_X12_readNew : List (Nat × Instr × Nat) := [(0, .aload_n 0, 1), (1, .invokevirtual 175, 3), (4, .ifCond .ne 9, 3), (7, .aload_n 0, 1), (8, .iconst 1, 1), (9, .invokevirtual 72, 3), (12, .ireturn, 1), (13, .aload_n 0, 1), (14, .getfield 123, 3), (17, .iconst 0, 1), (18, .aload_n 0, 1), (19, .getfield 101, 3), (22, .iconst 0, 1), (23, .iaload, 1), (24, .aload_n 0, 1), (25, .getfield 43, 3), (28, .invokestatic 179, 3), (31, .iconst (-1), 1), (32, .if_icmp .ne 26, 3), (35, .aload_n 0, 1), (36, .getfield 123, 3), (39, .bipush 6, 2), (41, .aload_n 0, 1), (42, .getfield 101, 3), (45, .iconst 1, 1), (46, .iaload, 1), (47, .aload_n 0, 1), (48, .getfield 43, 3), (51, .invokestatic 179, 3), (54, .iconst (-1), 1), (55, .if_icmp .eq 7, 3), (58, .iconst 1, 1), (59, .goto 4, 3), (62, .iconst 0, 1), (63, .istore_n 2, 1), (64, .iload_n 2, 1), (65, .ifCond .ne 26, 3), (68, .aload_n 0, 1), (69, .getfield 123, 3), (72, .bipush 11, 2), (74, .aload_n 0, 1), (75, .getfield 101, 3), (78, .iconst 2, 1), (79, .iaload, 1), (80, .aload_n 0, 1), (81, .getfield 43, 3), (84, .invokestatic 179, 3), (87, .iconst (-1), 1), (88, .if_icmp .eq 9, 3), (91, .aload_n 0, 1), (92, .iconst 3, 1), (93, .invokevirtual 72, 3), (96, .ireturn, 1), (97, .aload_n 0, 1), (98, .getfield 123, 3), (101, .iload_n 1, 1), (102, .aload_n 0, 1), (103, .getfield 43, 3), (106, .lastore, 1), (107, .aload_n 0, 1), (108, .invokevirtual 82, 3), (111, .iconst 1, 1), (112, .ireturn, 1)]
set_option maxRecDepth 20000 in
theorem me_X12_readNew : zdecs cX12_readNew md_X12_readNew := by
  unfold zdecs md_X12_readNew
  decide +kernel
def md_X12_readFirst : List (Nat × Instr × Nat) := [(0, .aload_n 0, 1), (1, .getfield 101, 3), (4, .iload_n 1, 1), (5, .iaload, 1), (6, .iload_n 2, 1), (7, .if_icmp .ne 9, 3), (10, .aload_n 0, 1), (11, .iconst 4, 1), (12, .invokevirtual 72, 3), (15, .ireturn, 1), (16, .aload_n 0, 1), (17, .invokevirtual 82, 3), (20, .iconst 1, 1), (21, .ireturn, 1)]
set_option maxRecDepth 20000 in
theorem me_X12_readFirst : zdecs cX12_readFirst md_X12_readFirst := by
  unfold zdecs md_X12_readFirst
  decide +kernel
def md_X12_put : List (Nat × Instr × Nat) := [(0, .iload_n 2, 1), (1, .ifCond .eq 13, 3), (4, .aload_n 0, 1), (5, .getfield 101, 3), (8, .iload_n 1, 1), (9, .aload_n 0, 1), (10, .getfield 79, 3), (13, .iastore, 1), (14, .iload_n 2, 1), (15, .ireturn, 1)]
set_option maxRecDepth 20000 in
theorem me_X12_put : zdecs cX12_put md_X12_put := by
  unfold zdecs md_X12_put
  decide +kernel
def md_X12_readBath : List (Nat × Instr × Nat) := [(0, .aload_n 0, 1), (1, .getfield 101, 3), (4, .iconst 1, 1), (5, .iaload, 1), (6, .ifCond .le 9, 3), (9, .aload_n 0, 1), (10, .iconst 3, 1), (11, .invokevirtual 72, 3), (14, .ireturn, 1), (15, .aload_n 0, 1), (16, .iconst 0, 1), (17, .bipush 6, 2), (19, .invokevirtual 183, 3), (22, .ifCond .ne 5, 3), (25, .iconst 0, 1), (26, .ireturn, 1), (27, .aload_n 0, 1), (28, .getfield 101, 3), (31, .iconst 0, 1), (32, .iaload, 1), (33, .istore_n 1, 1), (34, .aload_n 0, 1), (35, .iload_n 1, 1), (36, .invokevirtual 187, 3), (39, .ifCond .eq 38, 3), (42, .aload_n 0, 1), (43, .bipush 6, 2), (45, .iload_n 1, 1), (46, .iadd, 1), (47, .aload_n 0, 1), (48, .iconst 1, 1), (49, .iconst 4, 1), (50, .invokevirtual 190, 3), (53, .invokevirtual 193, 3), (56, .ifCond .eq 21, 3), (59, .aload_n 0, 1), (60, .bipush 12, 2), (62, .iload_n 1, 1), (63, .iadd, 1), (64, .aload_n 0, 1), (65, .iconst 1, 1), (66, .bipush 99, 2), (68, .invokevirtual 190, 3), (71, .invokevirtual 193, 3), (74, .ifCond .ne 5, 3), (77, .iconst 0, 1), (78, .ireturn, 1), (79, .aload_n 0, 1), (80, .getfield 101, 3), (83, .iconst 0, 1), (84, .dup2, 1), (85, .iaload, 1), (86, .iconst 1, 1), (87, .iadd, 1), (88, .iastore, 1), (89, .iconst 1, 1), (90, .ireturn, 1)]
set_option maxRecDepth 20000 in
theorem me_X12_readBath : zdecs cX12_readBath md_X12_readBath := by
  unfold zdecs md_X12_readBath
  decide +kernel
def md_X12_readPaper : List (Nat × Instr × Nat) := [(0, .aload_n 0, 1), (1, .iconst 1, 1), (2, .iconst 5, 1), (3, .invokevirtual 183, 3), (6, .ifCond .ne 5, 3), (9, .iconst 0, 1), (10, .ireturn, 1), (11, .aload_n 0, 1), (12, .getfield 101, 3), (15, .iconst 1, 1), (16, .iaload, 1), (17, .istore_n 1, 1), (18, .aload_n 0, 1), (19, .bipush 6, 2), (21, .iload_n 1, 1), (22, .iadd, 1), (23, .invokevirtual 187, 3), (26, .ifCond .ne 5, 3), (29, .iconst 0, 1), (30, .ireturn, 1), (31, .iconst 0, 1), (32, .istore_n 2, 1), (33, .iload_n 2, 1), (34, .aload_n 0, 1), (35, .getfield 101, 3), (38, .iconst 0, 1), (39, .iaload, 1), (40, .if_icmp .ge 34, 3), (43, .aload_n 0, 1), (44, .bipush 18, 2), (46, .bipush 6, 2), (48, .iload_n 1, 1), (49, .imul, 1), (50, .iadd, 1), (51, .iload_n 2, 1), (52, .iadd, 1), (53, .aload_n 0, 1), (54, .iconst 0, 1), (55, .bipush 30, 2), (57, .invokevirtual 190, 3), (60, .invokevirtual 193, 3), (63, .ifCond .ne 5, 3), (66, .iconst 0, 1), (67, .ireturn, 1), (68, .iinc 2 1, 3), (71, .goto (-38), 3), (74, .aload_n 0, 1), (75, .getfield 101, 3), (78, .iconst 1, 1), (79, .dup2, 1), (80, .iaload, 1), (81, .iconst 1, 1), (82, .iadd, 1), (83, .iastore, 1), (84, .iconst 1, 1), (85, .ireturn, 1)]
set_option maxRecDepth 20000 in
theorem me_X12_readPaper : zdecs cX12_readPaper md_X12_readPaper := by
  unfold zdecs md_X12_readPaper
  decide +kernel
def md_X12_readSheet : List (Nat × Instr × Nat) := [(0, .aload_n 0, 1), (1, .iconst 2, 1), (2, .bipush 8, 2), (4, .invokevirtual 183, 3), (7, .ifCond .ne 5, 3), (10, .iconst 0, 1), (11, .ireturn, 1), (12, .aload_n 0, 1), (13, .getfield 101, 3), (16, .iconst 2, 1), (17, .iaload, 1), (18, .istore_n 1, 1), (19, .aload_n 0, 1), (20, .bipush 11, 2), (22, .iload_n 1, 1), (23, .iadd, 1), (24, .invokevirtual 187, 3), (27, .ifCond .ne 5, 3), (30, .iconst 0, 1), (31, .ireturn, 1), (32, .aload_n 0, 1), (33, .invokevirtual 175, 3), (36, .ifCond .ne 9, 3), (39, .aload_n 0, 1), (40, .iconst 1, 1), (41, .invokevirtual 72, 3), (44, .ireturn, 1), (45, .aload_n 0, 1), (46, .getfield 123, 3), (49, .bipush 6, 2), (51, .aload_n 0, 1), (52, .getfield 101, 3), (55, .iconst 1, 1), (56, .iaload, 1), (57, .aload_n 0, 1), (58, .getfield 43, 3), (61, .invokestatic 179, 3), (64, .istore_n 2, 1), (65, .iload_n 2, 1), (66, .iconst (-1), 1), (67, .if_icmp .ne 9, 3), (70, .aload_n 0, 1), (71, .iconst 3, 1), (72, .invokevirtual 72, 3), (75, .ireturn, 1), (76, .aload_n 0, 1), (77, .invokevirtual 82, 3), (80, .aload_n 0, 1), (81, .getfield 101, 3), (84, .bipush 48, 2), (86, .iload_n 1, 1), (87, .iadd, 1), (88, .iload_n 2, 1), (89, .iastore, 1), (90, .aload_n 0, 1), (91, .getfield 101, 3), (94, .iconst 2, 1), (95, .dup2, 1), (96, .iaload, 1), (97, .iconst 1, 1), (98, .iadd, 1), (99, .iastore, 1), (100, .iconst 1, 1), (101, .ireturn, 1)]
set_option maxRecDepth 20000 in
theorem me_X12_readSheet : zdecs cX12_readSheet md_X12_readSheet := by
  unfold zdecs md_X12_readSheet
  decide +kernel
def md_X12_readOnce : List (Nat × Instr × Nat) := [(0, .aload_n 0, 1), (1, .getfield 197, 3), (4, .iload_n 1, 1), (5, .invokestatic 200, 3), (8, .ifCond .eq 9, 3), (11, .aload_n 0, 1), (12, .iconst 3, 1), (13, .invokevirtual 72, 3), (16, .ireturn, 1), (17, .aload_n 0, 1), (18, .dup, 1), (19, .getfield 197, 3), (22, .iconst 1, 1), (23, .iload_n 1, 1), (24, .ishl, 1), (25, .ior, 1), (26, .putfield 197, 3), (29, .aload_n 0, 1), (30, .invokevirtual 82, 3), (33, .aload_n 0, 1), (34, .iload_n 1, 1), (35, .aload_n 0, 1), (36, .iconst 0, 1), (37, .iload_n 2, 1), (38, .invokevirtual 190, 3), (41, .invokevirtual 193, 3), (44, .ireturn, 1)]
set_option maxRecDepth 20000 in
theorem me_X12_readOnce : zdecs cX12_readOnce md_X12_readOnce := by
  unfold zdecs md_X12_readOnce
  decide +kernel
def md_X12_readLine : List (Nat × Instr × Nat) := [(0, .aload_n 0, 1), (1, .iconst 0, 1), (2, .invokevirtual 203, 3), (5, .ifCond .eq 8, 3), (8, .aload_n 0, 1), (9, .invokevirtual 206, 3), (12, .ireturn, 1), (13, .aload_n 0, 1), (14, .iconst 1, 1), (15, .invokevirtual 203, 3), (18, .ifCond .eq 8, 3), (21, .aload_n 0, 1), (22, .invokevirtual 209, 3), (25, .ireturn, 1), (26, .aload_n 0, 1), (27, .iconst 2, 1), (28, .invokevirtual 203, 3), (31, .ifCond .eq 8, 3), (34, .aload_n 0, 1), (35, .invokevirtual 212, 3), (38, .ireturn, 1), (39, .aload_n 0, 1), (40, .iconst 3, 1), (41, .invokevirtual 203, 3), (44, .ifCond .eq 11, 3), (47, .aload_n 0, 1), (48, .iconst 3, 1), (49, .bipush 9, 2), (51, .invokevirtual 215, 3), (54, .ireturn, 1), (55, .aload_n 0, 1), (56, .iconst 4, 1), (57, .invokevirtual 203, 3), (60, .ifCond .eq 11, 3), (63, .aload_n 0, 1), (64, .iconst 4, 1), (65, .bipush 9, 2), (67, .invokevirtual 215, 3), (70, .ireturn, 1), (71, .aload_n 0, 1), (72, .iconst 5, 1), (73, .invokevirtual 203, 3), (76, .ifCond .eq 13, 3), (79, .aload_n 0, 1), (80, .iconst 5, 1), (81, .bipush 99, 2), (83, .invokevirtual 215, 3), (86, .goto 8, 3), (89, .aload_n 0, 1), (90, .iconst 1, 1), (91, .invokevirtual 72, 3), (94, .ireturn, 1)]
set_option maxRecDepth 20000 in
theorem me_X12_readLine : zdecs cX12_readLine md_X12_readLine := by
  unfold zdecs md_X12_readLine
  decide +kernel
def md_X12_room : List (Nat × Instr × Nat) := [(0, .aload_n 0, 1), (1, .sipush 900, 3), (4, .invokevirtual 218, 3), (7, .iconst 0, 1), (8, .istore_n 1, 1), (9, .iload_n 1, 1), (10, .bipush 56, 2), (12, .if_icmp .ge 16, 3), (15, .aload_n 0, 1), (16, .getfield 101, 3), (19, .iload_n 1, 1), (20, .iconst 0, 1), (21, .iastore, 1), (22, .iinc 1 1, 3), (25, .goto (-16), 3), (28, .aload_n 0, 1), (29, .getfield 101, 3), (32, .iconst 5, 1), (33, .iconst 5, 1), (34, .iastore, 1), (35, .aload_n 0, 1), (36, .iconst 0, 1), (37, .putfield 197, 3), (40, .iconst 0, 1), (41, .istore_n 1, 1), (42, .aload_n 0, 1), (43, .getfield 30, 3), (46, .ifCond .eq 30, 3), (49, .aload_n 0, 1), (50, .invokevirtual 221, 3), (53, .ifCond .eq 10, 3), (56, .aload_n 0, 1), (57, .invokevirtual 224, 3), (60, .ifCond .ne 10, 3), (63, .iconst (-1), 1), (64, .aload_n 0, 1), (65, .getfield 69, 3), (68, .isub, 1), (69, .ireturn, 1), (70, .iinc 1 1, 3), (73, .goto (-31), 3), (76, .iconst 0, 1), (77, .istore_n 2, 1), (78, .iload_n 2, 1), (79, .bipush 56, 2), (81, .if_icmp .ge 21, 3), (84, .aload_n 0, 1), (85, .getfield 98, 3), (88, .iload_n 2, 1), (89, .aload_n 0, 1), (90, .getfield 101, 3), (93, .iload_n 2, 1), (94, .iaload, 1), (95, .iastore, 1), (96, .iinc 2 1, 3), (99, .goto (-21), 3), (102, .iconst 0, 1), (103, .istore_n 2, 1), (104, .iload_n 2, 1), (105, .bipush 19, 2), (107, .if_icmp .ge 21, 3), (110, .aload_n 0, 1), (111, .getfield 119, 3), (114, .iload_n 2, 1), (115, .aload_n 0, 1), (116, .getfield 123, 3), (119, .iload_n 2, 1), (120, .laload, 1), (121, .lastore, 1), (122, .iinc 2 1, 3), (125, .goto (-21), 3), (128, .aload_n 0, 1), (129, .invokevirtual 172, 3), (132, .aload_n 0, 1), (133, .iconst 0, 1), (134, .putfield 227, 3), (137, .iload_n 1, 1), (138, .ireturn, 1)]
set_option maxRecDepth 20000 in
theorem me_X12_room : zdecs cX12_room md_X12_room := by
  unfold zdecs md_X12_room
  decide +kernel
def md_X12_fault : List (Nat × Instr × Nat) := [(0, .aload_n 0, 1), (1, .iconst 0, 1), (2, .putfield 1, 3), (5, .aload_n 0, 1), (6, .getfield 66, 3), (9, .ireturn, 1)]
set_option maxRecDepth 20000 in
theorem me_X12_fault : zdecs cX12_fault md_X12_fault := by
  unfold zdecs md_X12_fault
  decide +kernel
def md_X12_isBath : List (Nat × Instr × Nat) := [(0, .iload_n 1, 1), (1, .iconst 0, 1), (2, .aload_n 0, 1), (3, .getfield 98, 3), (6, .iconst 0, 1), (7, .iaload, 1), (8, .iconst 1, 1), (9, .isub, 1), (10, .invokestatic 75, 3), (13, .ireturn, 1)]
set_option maxRecDepth 20000 in
theorem me_X12_isBath : zdecs cX12_isBath md_X12_isBath := by
  unfold zdecs md_X12_isBath
  decide +kernel
def md_X12_isPaper : List (Nat × Instr × Nat) := [(0, .iload_n 1, 1), (1, .iconst 0, 1), (2, .aload_n 0, 1), (3, .getfield 98, 3), (6, .iconst 1, 1), (7, .iaload, 1), (8, .iconst 1, 1), (9, .isub, 1), (10, .invokestatic 75, 3), (13, .ireturn, 1)]
set_option maxRecDepth 20000 in
theorem me_X12_isPaper : zdecs cX12_isPaper md_X12_isPaper := by
  unfold zdecs md_X12_isPaper
  decide +kernel
def md_X12_isSheet : List (Nat × Instr × Nat) := [(0, .iload_n 1, 1), (1, .iconst 0, 1), (2, .aload_n 0, 1), (3, .getfield 98, 3), (6, .iconst 2, 1), (7, .iaload, 1), (8, .iconst 1, 1), (9, .isub, 1), (10, .invokestatic 75, 3), (13, .ireturn, 1)]
set_option maxRecDepth 20000 in
theorem me_X12_isSheet : zdecs cX12_isSheet md_X12_isSheet := by
  unfold zdecs md_X12_isSheet
  decide +kernel
def md_X12_isWaiting : List (Nat × Instr × Nat) := [(0, .aload_n 0, 1), (1, .getfield 98, 3), (4, .bipush 64, 2), (6, .iload_n 1, 1), (7, .iadd, 1), (8, .iaload, 1), (9, .ifCond .ne 7, 3), (12, .iconst 1, 1), (13, .goto 4, 3), (16, .iconst 0, 1), (17, .ireturn, 1)]
set_option maxRecDepth 20000 in
theorem me_X12_isWaiting : zdecs cX12_isWaiting md_X12_isWaiting := by
  unfold zdecs md_X12_isWaiting
  decide +kernel
def md_X12_isBathed : List (Nat × Instr × Nat) := [(0, .aload_n 0, 1), (1, .getfield 98, 3), (4, .bipush 64, 2), (6, .iload_n 1, 1), (7, .iadd, 1), (8, .iaload, 1), (9, .iconst 1, 1), (10, .if_icmp .ne 7, 3), (13, .iconst 1, 1), (14, .goto 4, 3), (17, .iconst 0, 1), (18, .ireturn, 1)]
set_option maxRecDepth 20000 in
theorem me_X12_isBathed : zdecs cX12_isBathed md_X12_isBathed := by
  unfold zdecs md_X12_isBathed
  decide +kernel
def md_X12_isHeld : List (Nat × Instr × Nat) := [(0, .aload_n 0, 1), (1, .iload_n 1, 1), (2, .invokevirtual 230, 3), (5, .ifCond .eq 19, 3), (8, .aload_n 0, 1), (9, .getfield 98, 3), (12, .bipush 80, 2), (14, .iload_n 1, 1), (15, .iadd, 1), (16, .iaload, 1), (17, .ifCond .ne 7, 3), (20, .iconst 1, 1), (21, .goto 4, 3), (24, .iconst 0, 1), (25, .ireturn, 1)]
set_option maxRecDepth 20000 in
theorem me_X12_isHeld : zdecs cX12_isHeld md_X12_isHeld := by
  unfold zdecs md_X12_isHeld
  decide +kernel
def md_X12_asked : List (Nat × Instr × Nat) := [(0, .aload_n 0, 1), (1, .getfield 98, 3), (4, .bipush 18, 2), (6, .bipush 6, 2), (8, .iload_n 1, 1), (9, .imul, 1), (10, .iadd, 1), (11, .iload_n 2, 1), (12, .iadd, 1), (13, .iaload, 1), (14, .ireturn, 1)]
set_option maxRecDepth 20000 in
theorem me_X12_asked : zdecs cX12_asked md_X12_asked := by
  unfold zdecs md_X12_asked
  decide +kernel
def md_X12_askedBy : List (Nat × Instr × Nat) := [(0, .aload_n 0, 1), (1, .aload_n 0, 1), (2, .getfield 98, 3), (5, .bipush 48, 2), (7, .iload_n 1, 1), (8, .iadd, 1), (9, .iaload, 1), (10, .iload_n 2, 1), (11, .invokevirtual 233, 3), (14, .ireturn, 1)]
set_option maxRecDepth 20000 in
theorem me_X12_askedBy : zdecs cX12_askedBy md_X12_askedBy := by
  unfold zdecs md_X12_askedBy
  decide +kernel
def md_X12_sheetsIn : List (Nat × Instr × Nat) := [(0, .iconst 0, 1), (1, .istore_n 2, 1), (2, .iconst 0, 1), (3, .istore_n 3, 1), (4, .iload_n 3, 1), (5, .aload_n 0, 1), (6, .getfield 98, 3), (9, .iconst 2, 1), (10, .iaload, 1), (11, .if_icmp .ge 28, 3), (14, .aload_n 0, 1), (15, .getfield 98, 3), (18, .bipush 72, 2), (20, .iload_n 3, 1), (21, .iadd, 1), (22, .iaload, 1), (23, .iload_n 1, 1), (24, .if_icmp .ne 9, 3), (27, .iload_n 2, 1), (28, .iconst 1, 1), (29, .iload_n 3, 1), (30, .ishl, 1), (31, .ior, 1), (32, .istore_n 2, 1), (33, .iinc 3 1, 3), (36, .goto (-32), 3), (39, .iload_n 2, 1), (40, .ireturn, 1)]
set_option maxRecDepth 20000 in
theorem me_X12_sheetsIn : zdecs cX12_sheetsIn md_X12_sheetsIn := by
  unfold zdecs md_X12_sheetsIn
  decide +kernel
def md_X12_isOpen : List (Nat × Instr × Nat) := [(0, .aload_n 0, 1), (1, .iload_n 1, 1), (2, .invokevirtual 237, 3), (5, .invokestatic 240, 3), (8, .aload_n 0, 1), (9, .getfield 98, 3), (12, .bipush 6, 2), (14, .iload_n 1, 1), (15, .iadd, 1), (16, .iaload, 1), (17, .if_icmp .ge 28, 3), (20, .aload_n 0, 1), (21, .getfield 98, 3), (24, .bipush 58, 2), (26, .iload_n 1, 1), (27, .iadd, 1), (28, .iaload, 1), (29, .aload_n 0, 1), (30, .getfield 98, 3), (33, .bipush 12, 2), (35, .iload_n 1, 1), (36, .iadd, 1), (37, .iaload, 1), (38, .if_icmp .ge 7, 3), (41, .iconst 1, 1), (42, .goto 4, 3), (45, .iconst 0, 1), (46, .ireturn, 1)]
set_option maxRecDepth 20000 in
theorem me_X12_isOpen : zdecs cX12_isOpen md_X12_isOpen := by
  unfold zdecs md_X12_isOpen
  decide +kernel
def md_X12_nextOf : List (Nat × Instr × Nat) := [(0, .iload_n 2, 1), (1, .iconst 1, 1), (2, .iadd, 1), (3, .istore_n 3, 1), (4, .iload_n 3, 1), (5, .aload_n 0, 1), (6, .getfield 98, 3), (9, .iconst 0, 1), (10, .iaload, 1), (11, .if_icmp .ge 20, 3), (14, .aload_n 0, 1), (15, .iload_n 1, 1), (16, .iload_n 3, 1), (17, .invokevirtual 243, 3), (20, .ifCond .le 5, 3), (23, .iload_n 3, 1), (24, .ireturn, 1), (25, .iinc 3 1, 3), (28, .goto (-24), 3), (31, .iconst (-1), 1), (32, .ireturn, 1)]
set_option maxRecDepth 20000 in
theorem me_X12_nextOf : zdecs cX12_nextOf md_X12_nextOf := by
  unfold zdecs md_X12_nextOf
  decide +kernel
def md_X12_needOf : List (Nat × Instr × Nat) := [(0, .iconst 0, 1), (1, .istore_n 2, 1), (2, .iconst 0, 1), (3, .istore_n 3, 1), (4, .iload_n 3, 1), (5, .aload_n 0, 1), (6, .getfield 98, 3), (9, .iconst 2, 1), (10, .iaload, 1), (11, .if_icmp .ge 50, 3), (14, .aload_n 0, 1), (15, .iload_n 3, 1), (16, .iload_n 1, 1), (17, .invokevirtual 243, 3), (20, .ifCond .le 35, 3), (23, .aload_n 0, 1), (24, .iload_n 3, 1), (25, .invokevirtual 246, 3), (28, .ifCond .ne 24, 3), (31, .aload_n 0, 1), (32, .iload_n 3, 1), (33, .invokevirtual 230, 3), (36, .ifCond .eq 19, 3), (39, .aload_n 0, 1), (40, .getfield 98, 3), (43, .bipush 72, 2), (45, .iload_n 3, 1), (46, .iadd, 1), (47, .iaload, 1), (48, .iload_n 1, 1), (49, .if_icmp .ge 6, 3), (52, .iinc 2 1, 3), (55, .iinc 3 1, 3), (58, .goto (-54), 3), (61, .iload_n 2, 1), (62, .aload_n 0, 1), (63, .getfield 98, 3), (66, .bipush 12, 2), (68, .iload_n 1, 1), (69, .iadd, 1), (70, .iaload, 1), (71, .aload_n 0, 1), (72, .getfield 98, 3), (75, .bipush 58, 2), (77, .iload_n 1, 1), (78, .iadd, 1), (79, .iaload, 1), (80, .isub, 1), (81, .isub, 1), (82, .istore_n 3, 1), (83, .iload_n 3, 1), (84, .ifCond .gt 7, 3), (87, .iconst 0, 1), (88, .goto 26, 3), (91, .iload_n 3, 1), (92, .aload_n 0, 1), (93, .getfield 98, 3), (96, .bipush 12, 2), (98, .iload_n 1, 1), (99, .iadd, 1), (100, .iaload, 1), (101, .iadd, 1), (102, .iconst 1, 1), (103, .isub, 1), (104, .aload_n 0, 1), (105, .getfield 98, 3), (108, .bipush 12, 2), (110, .iload_n 1, 1), (111, .iadd, 1), (112, .iaload, 1), (113, .idiv, 1), (114, .ireturn, 1)]
set_option maxRecDepth 20000 in
theorem me_X12_needOf : zdecs cX12_needOf md_X12_needOf := by
  unfold zdecs md_X12_needOf
  decide +kernel
def md_X12_bath : List (Nat × Instr × Nat) := [(0, .aload_n 0, 1), (1, .iconst 0, 1), (2, .putfield 1, 3), (5, .aload_n 0, 1), (6, .iload_n 1, 1), (7, .invokevirtual 249, 3), (10, .ifCond .ne 5, 3), (13, .iconst (-1), 1), (14, .ireturn, 1), (15, .iload_n 2, 1), (16, .tableswitch 96 0 5 #[40, 50, 60, 70, 76, 90], 40), (56, .aload_n 0, 1), (57, .getfield 98, 3), (60, .bipush 6, 2), (62, .iload_n 1, 1), (63, .iadd, 1), (64, .iaload, 1), (65, .ireturn, 1), (66, .aload_n 0, 1), (67, .getfield 98, 3), (70, .bipush 12, 2), (72, .iload_n 1, 1), (73, .iadd, 1), (74, .iaload, 1), (75, .ireturn, 1), (76, .aload_n 0, 1), (77, .getfield 98, 3), (80, .bipush 58, 2), (82, .iload_n 1, 1), (83, .iadd, 1), (84, .iaload, 1), (85, .ireturn, 1), (86, .aload_n 0, 1), (87, .iload_n 1, 1), (88, .invokevirtual 237, 3), (91, .ireturn, 1), (92, .aload_n 0, 1), (93, .iload_n 1, 1), (94, .invokevirtual 252, 3), (97, .ifCond .eq 7, 3), (100, .iconst 1, 1), (101, .goto 4, 3), (104, .iconst 0, 1), (105, .ireturn, 1), (106, .aload_n 0, 1), (107, .iload_n 1, 1), (108, .invokevirtual 255, 3), (111, .ireturn, 1), (112, .iconst (-1), 1), (113, .ireturn, 1)]
set_option maxRecDepth 20000 in
theorem me_X12_bath : zdecs cX12_bath md_X12_bath := by
  unfold zdecs md_X12_bath
  decide +kernel
def md_X12_asks : List (Nat × Instr × Nat) := [(0, .aload_n 0, 1), (1, .iconst 0, 1), (2, .putfield 1, 3), (5, .aload_n 0, 1), (6, .iload_n 1, 1), (7, .invokevirtual 258, 3), (10, .ifCond .eq 20, 3), (13, .aload_n 0, 1), (14, .iload_n 2, 1), (15, .invokevirtual 249, 3), (18, .ifCond .eq 12, 3), (21, .aload_n 0, 1), (22, .iload_n 1, 1), (23, .iload_n 2, 1), (24, .invokevirtual 233, 3), (27, .goto 4, 3), (30, .iconst (-1), 1), (31, .ireturn, 1)]
set_option maxRecDepth 20000 in
theorem me_X12_asks : zdecs cX12_asks md_X12_asks := by
  unfold zdecs md_X12_asks
  decide +kernel
def md_X12_sheet : List (Nat × Instr × Nat) := [(0, .aload_n 0, 1), (1, .iconst 0, 1), (2, .putfield 1, 3), (5, .aload_n 0, 1), (6, .iload_n 1, 1), (7, .invokevirtual 261, 3), (10, .ifCond .ne 8, 3), (13, .aload_n 0, 1), (14, .invokevirtual 264, 3), (17, .ireturn, 1), (18, .iload_n 2, 1), (19, .tableswitch 111 0 6 #[41, 51, 61, 71, 81, 91, 101], 41), (60, .aload_n 0, 1), (61, .getfield 98, 3), (64, .bipush 48, 2), (66, .iload_n 1, 1), (67, .iadd, 1), (68, .iaload, 1), (69, .ireturn, 1), (70, .aload_n 0, 1), (71, .getfield 98, 3), (74, .bipush 64, 2), (76, .iload_n 1, 1), (77, .iadd, 1), (78, .iaload, 1), (79, .ireturn, 1), (80, .aload_n 0, 1), (81, .getfield 98, 3), (84, .bipush 72, 2), (86, .iload_n 1, 1), (87, .iadd, 1), (88, .iaload, 1), (89, .ireturn, 1), (90, .aload_n 0, 1), (91, .getfield 98, 3), (94, .bipush 80, 2), (96, .iload_n 1, 1), (97, .iadd, 1), (98, .iaload, 1), (99, .ireturn, 1), (100, .aload_n 0, 1), (101, .getfield 98, 3), (104, .bipush 88, 2), (106, .iload_n 1, 1), (107, .iadd, 1), (108, .iaload, 1), (109, .ireturn, 1), (110, .aload_n 0, 1), (111, .getfield 98, 3), (114, .bipush 96, 2), (116, .iload_n 1, 1), (117, .iadd, 1), (118, .iaload, 1), (119, .ireturn, 1), (120, .aload_n 0, 1), (121, .getfield 98, 3), (124, .bipush 104, 2), (126, .iload_n 1, 1), (127, .iadd, 1), (128, .iaload, 1), (129, .ireturn, 1), (130, .aload_n 0, 1), (131, .invokevirtual 264, 3), (134, .ireturn, 1)]
set_option maxRecDepth 20000 in
theorem me_X12_sheet : zdecs cX12_sheet md_X12_sheet := by
  unfold zdecs md_X12_sheet
  decide +kernel
def md_X12_those : List (Nat × Instr × Nat) := [(0, .iconst 0, 1), (1, .istore_n 2, 1), (2, .iconst 0, 1), (3, .istore_n 3, 1), (4, .iload_n 3, 1), (5, .aload_n 0, 1), (6, .getfield 98, 3), (9, .iconst 2, 1), (10, .iaload, 1), (11, .if_icmp .ge 28, 3), (14, .aload_n 0, 1), (15, .getfield 98, 3), (18, .bipush 64, 2), (20, .iload_n 3, 1), (21, .iadd, 1), (22, .iaload, 1), (23, .iload_n 1, 1), (24, .if_icmp .ne 9, 3), (27, .iload_n 2, 1), (28, .iconst 1, 1), (29, .iload_n 3, 1), (30, .ishl, 1), (31, .ior, 1), (32, .istore_n 2, 1), (33, .iinc 3 1, 3), (36, .goto (-32), 3), (39, .iload_n 2, 1), (40, .ireturn, 1)]
set_option maxRecDepth 20000 in
theorem me_X12_those : zdecs cX12_those md_X12_those := by
  unfold zdecs md_X12_those
  decide +kernel
def md_X12_now : List (Nat × Instr × Nat) := [(0, .aload_n 0, 1), (1, .iconst 0, 1), (2, .putfield 1, 3), (5, .iconst 0, 1), (6, .istore_n 2, 1), (7, .iload_n 1, 1), (8, .tableswitch 140 0 7 #[48, 56, 56, 56, 56, 64, 98, 132], 48), (56, .aload_n 0, 1), (57, .getfield 98, 3), (60, .bipush 56, 2), (62, .iaload, 1), (63, .ireturn, 1), (64, .aload_n 0, 1), (65, .iload_n 1, 1), (66, .iconst 1, 1), (67, .isub, 1), (68, .invokevirtual 267, 3), (71, .ireturn, 1), (72, .iconst 0, 1), (73, .istore_n 3, 1), (74, .iload_n 3, 1), (75, .aload_n 0, 1), (76, .getfield 98, 3), (79, .iconst 2, 1), (80, .iaload, 1), (81, .if_icmp .ge 23, 3), (84, .aload_n 0, 1), (85, .iload_n 3, 1), (86, .invokevirtual 270, 3), (89, .ifCond .eq 9, 3), (92, .iload_n 2, 1), (93, .iconst 1, 1), (94, .iload_n 3, 1), (95, .ishl, 1), (96, .ior, 1), (97, .istore_n 2, 1), (98, .iinc 3 1, 3), (101, .goto (-27), 3), (104, .iload_n 2, 1), (105, .ireturn, 1), (106, .iconst 0, 1), (107, .istore_n 3, 1), (108, .iload_n 3, 1), (109, .aload_n 0, 1), (110, .getfield 98, 3), (113, .iconst 0, 1), (114, .iaload, 1), (115, .if_icmp .ge 23, 3), (118, .aload_n 0, 1), (119, .iload_n 3, 1), (120, .invokevirtual 252, 3), (123, .ifCond .eq 9, 3), (126, .iload_n 2, 1), (127, .iconst 1, 1), (128, .iload_n 3, 1), (129, .ishl, 1), (130, .ior, 1), (131, .istore_n 2, 1), (132, .iinc 3 1, 3), (135, .goto (-27), 3), (138, .iload_n 2, 1), (139, .ireturn, 1), (140, .aload_n 0, 1), (141, .getfield 98, 3), (144, .bipush 57, 2), (146, .iaload, 1), (147, .ireturn, 1), (148, .iconst (-1), 1), (149, .ireturn, 1)]
set_option maxRecDepth 20000 in
theorem me_X12_now : zdecs cX12_now md_X12_now := by
  unfold zdecs md_X12_now
  decide +kernel
def md_X12_snap : List (Nat × Instr × Nat) := [(0, .aload_n 0, 1), (1, .getfield 227, 3), (4, .bipush 8, 2), (6, .if_icmp .ne 43, 3), (9, .iconst 0, 1), (10, .istore_n 1, 1), (11, .iload_n 1, 1), (12, .sipush 392, 3), (15, .if_icmp .ge 24, 3), (18, .aload_n 0, 1), (19, .getfield 107, 3), (22, .iload_n 1, 1), (23, .aload_n 0, 1), (24, .getfield 107, 3), (27, .iload_n 1, 1), (28, .bipush 56, 2), (30, .iadd, 1), (31, .iaload, 1), (32, .iastore, 1), (33, .iinc 1 1, 3), (36, .goto (-25), 3), (39, .aload_n 0, 1), (40, .dup, 1), (41, .getfield 227, 3), (44, .iconst 1, 1), (45, .isub, 1), (46, .putfield 227, 3), (49, .aload_n 0, 1), (50, .aload_n 0, 1), (51, .getfield 107, 3), (54, .bipush 56, 2), (56, .aload_n 0, 1), (57, .getfield 227, 3), (60, .imul, 1), (61, .invokevirtual 273, 3), (64, .aload_n 0, 1), (65, .dup, 1), (66, .getfield 227, 3), (69, .iconst 1, 1), (70, .iadd, 1), (71, .putfield 227, 3), (74, .return_, 1)]
set_option maxRecDepth 20000 in
theorem me_X12_snap : zdecs cX12_snap md_X12_snap := by
  unfold zdecs md_X12_snap
  decide +kernel
def md_X12_save : List (Nat × Instr × Nat) := [(0, .iconst 0, 1), (1, .istore_n 3, 1), (2, .iload_n 3, 1), (3, .bipush 56, 2), (5, .if_icmp .ge 23, 3), (8, .aload_n 1, 1), (9, .iload_n 2, 1), (10, .iload_n 3, 1), (11, .iadd, 1), (12, .aload_n 0, 1), (13, .getfield 98, 3), (16, .bipush 56, 2), (18, .iload_n 3, 1), (19, .iadd, 1), (20, .iaload, 1), (21, .iastore, 1), (22, .iinc 3 1, 3), (25, .goto (-23), 3), (28, .return_, 1)]
set_option maxRecDepth 20000 in
theorem me_X12_save : zdecs cX12_save md_X12_save := by
  unfold zdecs md_X12_save
  decide +kernel
def md_X12_comeBack : List (Nat × Instr × Nat) := [(0, .iconst 0, 1), (1, .istore_n 3, 1), (2, .iload_n 3, 1), (3, .bipush 56, 2), (5, .if_icmp .ge 23, 3), (8, .aload_n 0, 1), (9, .getfield 98, 3), (12, .bipush 56, 2), (14, .iload_n 3, 1), (15, .iadd, 1), (16, .aload_n 1, 1), (17, .iload_n 2, 1), (18, .iload_n 3, 1), (19, .iadd, 1), (20, .iaload, 1), (21, .iastore, 1), (22, .iinc 3 1, 3), (25, .goto (-23), 3), (28, .return_, 1)]
set_option maxRecDepth 20000 in
theorem me_X12_comeBack : zdecs cX12_comeBack md_X12_comeBack := by
  unfold zdecs md_X12_comeBack
  decide +kernel
def md_X12_whyStart : List (Nat × Instr × Nat) := [(0, .aload_n 0, 1), (1, .iload_n 1, 1), (2, .invokevirtual 246, 3), (5, .ifCond .ne 5, 3), (8, .iconst 1, 1), (9, .ireturn, 1), (10, .aload_n 0, 1), (11, .iload_n 1, 1), (12, .iconst (-1), 1), (13, .invokevirtual 277, 3), (16, .istore_n 2, 1), (17, .iload_n 2, 1), (18, .iconst (-1), 1), (19, .if_icmp .eq 15, 3), (22, .aload_n 0, 1), (23, .iload_n 2, 1), (24, .invokevirtual 252, 3), (27, .ifCond .ne 7, 3), (30, .iconst 2, 1), (31, .goto 4, 3), (34, .iconst 0, 1), (35, .ireturn, 1)]
set_option maxRecDepth 20000 in
theorem me_X12_whyStart : zdecs cX12_whyStart md_X12_whyStart := by
  unfold zdecs md_X12_whyStart
  decide +kernel
def md_X12_whyRenew : List (Nat × Instr × Nat) := [(0, .aload_n 0, 1), (1, .getfield 98, 3), (4, .bipush 58, 2), (6, .iload_n 1, 1), (7, .iadd, 1), (8, .iaload, 1), (9, .ifCond .ne 7, 3), (12, .iconst 1, 1), (13, .goto 30, 3), (16, .aload_n 0, 1), (17, .getfield 98, 3), (20, .bipush 57, 2), (22, .iaload, 1), (23, .ifCond .ne 7, 3), (26, .iconst 2, 1), (27, .goto 16, 3), (30, .aload_n 0, 1), (31, .iload_n 1, 1), (32, .invokevirtual 237, 3), (35, .ifCond .eq 7, 3), (38, .iconst 3, 1), (39, .goto 4, 3), (42, .iconst 0, 1), (43, .ireturn, 1)]
set_option maxRecDepth 20000 in
theorem me_X12_whyRenew : zdecs cX12_whyRenew md_X12_whyRenew := by
  unfold zdecs md_X12_whyRenew
  decide +kernel
def md_X12_why : List (Nat × Instr × Nat) := [(0, .iload_n 1, 1), (1, .tableswitch 66 0 2 #[27, 33, 47], 27), (28, .aload_n 0, 1), (29, .iload_n 2, 1), (30, .invokevirtual 280, 3), (33, .ireturn, 1), (34, .aload_n 0, 1), (35, .iload_n 2, 1), (36, .invokevirtual 230, 3), (39, .ifCond .eq 7, 3), (42, .iconst 0, 1), (43, .goto 4, 3), (46, .iconst 1, 1), (47, .ireturn, 1), (48, .aload_n 0, 1), (49, .getfield 98, 3), (52, .bipush 64, 2), (54, .iload_n 2, 1), (55, .iadd, 1), (56, .iaload, 1), (57, .iconst 3, 1), (58, .if_icmp .ne 7, 3), (61, .iconst 0, 1), (62, .goto 4, 3), (65, .iconst 1, 1), (66, .ireturn, 1), (67, .aload_n 0, 1), (68, .iload_n 2, 1), (69, .invokevirtual 283, 3), (72, .ireturn, 1)]
set_option maxRecDepth 20000 in
theorem me_X12_why : zdecs cX12_why md_X12_why := by
  unfold zdecs md_X12_why
  decide +kernel
def md_X12_comesInto : List (Nat × Instr × Nat) := [(0, .aload_n 0, 1), (1, .getfield 98, 3), (4, .bipush 64, 2), (6, .iload_n 1, 1), (7, .iadd, 1), (8, .iconst 1, 1), (9, .iastore, 1), (10, .aload_n 0, 1), (11, .getfield 98, 3), (14, .bipush 72, 2), (16, .iload_n 1, 1), (17, .iadd, 1), (18, .iload_n 2, 1), (19, .iastore, 1), (20, .aload_n 0, 1), (21, .getfield 98, 3), (24, .bipush 80, 2), (26, .iload_n 1, 1), (27, .iadd, 1), (28, .aload_n 0, 1), (29, .iload_n 1, 1), (30, .iload_n 2, 1), (31, .invokevirtual 243, 3), (34, .iconst 2, 1), (35, .aload_n 0, 1), (36, .getfield 98, 3), (39, .bipush 58, 2), (41, .iload_n 2, 1), (42, .iadd, 1), (43, .iaload, 1), (44, .imul, 1), (45, .aload_n 0, 1), (46, .getfield 98, 3), (49, .bipush 12, 2), (51, .iload_n 2, 1), (52, .iadd, 1), (53, .iaload, 1), (54, .if_icmp .lt 12, 3), (57, .aload_n 0, 1), (58, .getfield 98, 3), (61, .iconst 4, 1), (62, .iaload, 1), (63, .goto 4, 3), (66, .iconst 0, 1), (67, .iadd, 1), (68, .iastore, 1), (69, .aload_n 0, 1), (70, .getfield 98, 3), (73, .bipush 88, 2), (75, .iload_n 1, 1), (76, .iadd, 1), (77, .iconst 0, 1), (78, .iastore, 1), (79, .aload_n 0, 1), (80, .getfield 98, 3), (83, .bipush 58, 2), (85, .iload_n 2, 1), (86, .iadd, 1), (87, .dup2, 1), (88, .iaload, 1), (89, .iconst 1, 1), (90, .iadd, 1), (91, .iastore, 1), (92, .return_, 1)]
set_option maxRecDepth 20000 in
theorem me_X12_comesInto : zdecs cX12_comesInto md_X12_comesInto := by
  unfold zdecs md_X12_comesInto
  decide +kernel
def md_X12_goesOut : List (Nat × Instr × Nat) := [(0, .aload_n 0, 1), (1, .getfield 98, 3), (4, .bipush 64, 2), (6, .iload_n 1, 1), (7, .iadd, 1), (8, .iload_n 2, 1), (9, .iastore, 1), (10, .aload_n 0, 1), (11, .getfield 98, 3), (14, .bipush 72, 2), (16, .iload_n 1, 1), (17, .iadd, 1), (18, .iconst (-1), 1), (19, .iastore, 1), (20, .aload_n 0, 1), (21, .getfield 98, 3), (24, .bipush 80, 2), (26, .iload_n 1, 1), (27, .iadd, 1), (28, .iconst 0, 1), (29, .iastore, 1), (30, .aload_n 0, 1), (31, .getfield 98, 3), (34, .bipush 88, 2), (36, .iload_n 1, 1), (37, .iadd, 1), (38, .iconst 0, 1), (39, .iastore, 1), (40, .return_, 1)]
set_option maxRecDepth 20000 in
theorem me_X12_goesOut : zdecs cX12_goesOut md_X12_goesOut := by
  unfold zdecs md_X12_goesOut
  decide +kernel
def md_X12_starts : List (Nat × Instr × Nat) := [(0, .aload_n 0, 1), (1, .getfield 98, 3), (4, .bipush 96, 2), (6, .iload_n 1, 1), (7, .iadd, 1), (8, .iconst 0, 1), (9, .iastore, 1), (10, .aload_n 0, 1), (11, .getfield 98, 3), (14, .bipush 104, 2), (16, .iload_n 1, 1), (17, .iadd, 1), (18, .dup2, 1), (19, .iaload, 1), (20, .iconst 1, 1), (21, .iadd, 1), (22, .iastore, 1), (23, .aload_n 0, 1), (24, .iload_n 1, 1), (25, .iconst (-1), 1), (26, .invokevirtual 277, 3), (29, .istore_n 2, 1), (30, .iload_n 2, 1), (31, .iconst (-1), 1), (32, .if_icmp .ne 12, 3), (35, .aload_n 0, 1), (36, .iload_n 1, 1), (37, .iconst 2, 1), (38, .invokevirtual 286, 3), (41, .goto 9, 3), (44, .aload_n 0, 1), (45, .iload_n 1, 1), (46, .iload_n 2, 1), (47, .invokevirtual 290, 3), (50, .return_, 1)]
set_option maxRecDepth 20000 in
theorem me_X12_starts : zdecs cX12_starts md_X12_starts := by
  unfold zdecs md_X12_starts
  decide +kernel
def md_X12_live : List (Nat × Instr × Nat) := [(0, .iload_n 1, 1), (1, .tableswitch 47 0 2 #[27, 33, 40], 27), (28, .aload_n 0, 1), (29, .iload_n 2, 1), (30, .invokevirtual 293, 3), (33, .return_, 1), (34, .aload_n 0, 1), (35, .iload_n 2, 1), (36, .iconst 3, 1), (37, .invokevirtual 286, 3), (40, .return_, 1), (41, .aload_n 0, 1), (42, .iload_n 2, 1), (43, .iconst 0, 1), (44, .invokevirtual 286, 3), (47, .return_, 1), (48, .aload_n 0, 1), (49, .getfield 98, 3), (52, .bipush 58, 2), (54, .iload_n 2, 1), (55, .iadd, 1), (56, .iconst 0, 1), (57, .iastore, 1), (58, .aload_n 0, 1), (59, .getfield 98, 3), (62, .bipush 57, 2), (64, .dup2, 1), (65, .iaload, 1), (66, .iconst 1, 1), (67, .isub, 1), (68, .iastore, 1), (69, .return_, 1)]
set_option maxRecDepth 20000 in
theorem me_X12_live : zdecs cX12_live md_X12_live := by
  unfold zdecs md_X12_live
  decide +kernel
def md_X12_act : List (Nat × Instr × Nat) := [(0, .iload_n 3, 1), (1, .ifCond .ne 5, 3), (4, .iconst (-1), 1), (5, .ireturn, 1), (6, .aload_n 0, 1), (7, .iload_n 1, 1), (8, .iload_n 2, 1), (9, .invokevirtual 296, 3), (12, .istore 4, 2), (14, .iload 4, 2), (16, .ifCond .eq 6, 3), (19, .iload 4, 2), (21, .ireturn, 1), (22, .aload_n 0, 1), (23, .invokevirtual 299, 3), (26, .aload_n 0, 1), (27, .iload_n 1, 1), (28, .iload_n 2, 1), (29, .invokevirtual 302, 3), (32, .iconst 0, 1), (33, .ireturn, 1)]
set_option maxRecDepth 20000 in
theorem me_X12_act : zdecs cX12_act md_X12_act := by
  unfold zdecs md_X12_act
  decide +kernel
def md_X12_start : List (Nat × Instr × Nat) := [(0, .aload_n 0, 1), (1, .iconst 0, 1), (2, .putfield 1, 3), (5, .aload_n 0, 1), (6, .iconst 0, 1), (7, .iload_n 1, 1), (8, .aload_n 0, 1), (9, .iload_n 1, 1), (10, .invokevirtual 261, 3), (13, .invokevirtual 305, 3), (16, .ireturn, 1)]
set_option maxRecDepth 20000 in
theorem me_X12_start : zdecs cX12_start md_X12_start := by
  unfold zdecs md_X12_start
  decide +kernel
def md_X12_take_ : List (Nat × Instr × Nat) := [(0, .aload_n 0, 1), (1, .iconst 0, 1), (2, .putfield 1, 3), (5, .aload_n 0, 1), (6, .iconst 1, 1), (7, .iload_n 1, 1), (8, .aload_n 0, 1), (9, .iload_n 1, 1), (10, .invokevirtual 261, 3), (13, .invokevirtual 305, 3), (16, .ireturn, 1)]
set_option maxRecDepth 20000 in
theorem me_X12_take_ : zdecs cX12_take_ md_X12_take_ := by
  unfold zdecs md_X12_take_
  decide +kernel
def md_X12_again : List (Nat × Instr × Nat) := [(0, .aload_n 0, 1), (1, .iconst 0, 1), (2, .putfield 1, 3), (5, .aload_n 0, 1), (6, .iconst 2, 1), (7, .iload_n 1, 1), (8, .aload_n 0, 1), (9, .iload_n 1, 1), (10, .invokevirtual 261, 3), (13, .invokevirtual 305, 3), (16, .ireturn, 1)]
set_option maxRecDepth 20000 in
theorem me_X12_again : zdecs cX12_again md_X12_again := by
  unfold zdecs md_X12_again
  decide +kernel
def md_X12_renew : List (Nat × Instr × Nat) := [(0, .aload_n 0, 1), (1, .iconst 0, 1), (2, .putfield 1, 3), (5, .aload_n 0, 1), (6, .iconst 3, 1), (7, .iload_n 1, 1), (8, .aload_n 0, 1), (9, .iload_n 1, 1), (10, .invokevirtual 249, 3), (13, .invokevirtual 305, 3), (16, .ireturn, 1)]
set_option maxRecDepth 20000 in
theorem me_X12_renew : zdecs cX12_renew md_X12_renew := by
  unfold zdecs md_X12_renew
  decide +kernel
def md_X12_undo : List (Nat × Instr × Nat) := [(0, .aload_n 0, 1), (1, .iconst 0, 1), (2, .putfield 1, 3), (5, .aload_n 0, 1), (6, .getfield 227, 3), (9, .ifCond .ne 5, 3), (12, .iconst (-1), 1), (13, .ireturn, 1), (14, .aload_n 0, 1), (15, .dup, 1), (16, .getfield 227, 3), (19, .iconst 1, 1), (20, .isub, 1), (21, .putfield 227, 3), (24, .aload_n 0, 1), (25, .aload_n 0, 1), (26, .getfield 107, 3), (29, .bipush 56, 2), (31, .aload_n 0, 1), (32, .getfield 227, 3), (35, .imul, 1), (36, .invokevirtual 309, 3), (39, .aload_n 0, 1), (40, .getfield 227, 3), (43, .ireturn, 1)]
set_option maxRecDepth 20000 in
theorem me_X12_undo : zdecs cX12_undo md_X12_undo := by
  unfold zdecs md_X12_undo
  decide +kernel
def md_X12_bathes : List (Nat × Instr × Nat) := [(0, .aload_n 0, 1), (1, .getfield 98, 3), (4, .bipush 80, 2), (6, .iload_n 1, 1), (7, .iadd, 1), (8, .iaload, 1), (9, .ifCond .le 16, 3), (12, .aload_n 0, 1), (13, .getfield 98, 3), (16, .bipush 80, 2), (18, .iload_n 1, 1), (19, .iadd, 1), (20, .dup2, 1), (21, .iaload, 1), (22, .iconst 1, 1), (23, .isub, 1), (24, .iastore, 1), (25, .aload_n 0, 1), (26, .getfield 98, 3), (29, .bipush 80, 2), (31, .iload_n 1, 1), (32, .iadd, 1), (33, .iaload, 1), (34, .ifCond .le 4, 3), (37, .return_, 1), (38, .aload_n 0, 1), (39, .iload_n 1, 1), (40, .iload_n 2, 1), (41, .invokevirtual 277, 3), (44, .istore_n 3, 1), (45, .iload_n 3, 1), (46, .iconst (-1), 1), (47, .if_icmp .ne 12, 3), (50, .aload_n 0, 1), (51, .iload_n 1, 1), (52, .iconst 2, 1), (53, .invokevirtual 286, 3), (56, .goto 73, 3), (59, .aload_n 0, 1), (60, .iload_n 3, 1), (61, .invokevirtual 252, 3), (64, .ifCond .eq 12, 3), (67, .aload_n 0, 1), (68, .iload_n 1, 1), (69, .iload_n 3, 1), (70, .invokevirtual 290, 3), (73, .goto 56, 3), (76, .aload_n 0, 1), (77, .getfield 98, 3), (80, .bipush 88, 2), (82, .iload_n 1, 1), (83, .iadd, 1), (84, .iaload, 1), (85, .aload_n 0, 1), (86, .getfield 98, 3), (89, .iconst 3, 1), (90, .iaload, 1), (91, .if_icmp .ne 12, 3), (94, .aload_n 0, 1), (95, .iload_n 1, 1), (96, .iconst 3, 1), (97, .invokevirtual 286, 3), (100, .goto 29, 3), (103, .aload_n 0, 1), (104, .getfield 98, 3), (107, .bipush 88, 2), (109, .iload_n 1, 1), (110, .iadd, 1), (111, .dup2, 1), (112, .iaload, 1), (113, .iconst 1, 1), (114, .iadd, 1), (115, .iastore, 1), (116, .aload_n 0, 1), (117, .getfield 98, 3), (120, .bipush 96, 2), (122, .iload_n 1, 1), (123, .iadd, 1), (124, .dup2, 1), (125, .iaload, 1), (126, .iconst 1, 1), (127, .iadd, 1), (128, .iastore, 1), (129, .return_, 1)]
set_option maxRecDepth 20000 in
theorem me_X12_bathes : zdecs cX12_bathes md_X12_bathes := by
  unfold zdecs md_X12_bathes
  decide +kernel
def md_X12_oneMinute : List (Nat × Instr × Nat) := [(0, .aload_n 0, 1), (1, .getfield 98, 3), (4, .iconst 0, 1), (5, .iaload, 1), (6, .iconst 1, 1), (7, .isub, 1), (8, .istore_n 1, 1), (9, .iload_n 1, 1), (10, .ifCond .lt 46, 3), (13, .iconst 0, 1), (14, .istore_n 2, 1), (15, .iload_n 2, 1), (16, .aload_n 0, 1), (17, .getfield 98, 3), (20, .iconst 2, 1), (21, .iaload, 1), (22, .if_icmp .ge 28, 3), (25, .aload_n 0, 1), (26, .getfield 98, 3), (29, .bipush 72, 2), (31, .iload_n 2, 1), (32, .iadd, 1), (33, .iaload, 1), (34, .iload_n 1, 1), (35, .if_icmp .ne 9, 3), (38, .aload_n 0, 1), (39, .iload_n 2, 1), (40, .iload_n 1, 1), (41, .invokevirtual 312, 3), (44, .iinc 2 1, 3), (47, .goto (-32), 3), (50, .iinc 1 (-1), 3), (53, .goto (-44), 3), (56, .aload_n 0, 1), (57, .getfield 98, 3), (60, .bipush 56, 2), (62, .dup2, 1), (63, .iaload, 1), (64, .iconst 1, 1), (65, .iadd, 1), (66, .iastore, 1), (67, .return_, 1)]
set_option maxRecDepth 20000 in
theorem me_X12_oneMinute : zdecs cX12_oneMinute md_X12_oneMinute := by
  unfold zdecs md_X12_oneMinute
  decide +kernel
def md_X12_passMinutes : List (Nat × Instr × Nat) := [(0, .iload_n 1, 1), (1, .sipush 1000, 3), (4, .aload_n 0, 1), (5, .getfield 98, 3), (8, .bipush 56, 2), (10, .iaload, 1), (11, .isub, 1), (12, .invokestatic 315, 3), (15, .istore_n 2, 1), (16, .aload_n 0, 1), (17, .iload_n 2, 1), (18, .invokevirtual 318, 3), (21, .iload_n 2, 1), (22, .ireturn, 1)]
set_option maxRecDepth 20000 in
theorem me_X12_passMinutes : zdecs cX12_passMinutes md_X12_passMinutes := by
  unfold zdecs md_X12_passMinutes
  decide +kernel
def md_X12_goOn : List (Nat × Instr × Nat) := [(0, .iconst 0, 1), (1, .istore_n 2, 1), (2, .iload_n 2, 1), (3, .iload_n 1, 1), (4, .if_icmp .ge 13, 3), (7, .aload_n 0, 1), (8, .invokevirtual 321, 3), (11, .iinc 2 1, 3), (14, .goto (-12), 3), (17, .return_, 1)]
set_option maxRecDepth 20000 in
theorem me_X12_goOn : zdecs cX12_goOn md_X12_goOn := by
  unfold zdecs md_X12_goOn
  decide +kernel
def md_X12_minutes : List (Nat × Instr × Nat) := [(0, .aload_n 0, 1), (1, .iconst 0, 1), (2, .putfield 1, 3), (5, .iload_n 1, 1), (6, .iconst 1, 1), (7, .bipush 60, 2), (9, .invokestatic 75, 3), (12, .ifCond .ne 5, 3), (15, .iconst (-1), 1), (16, .ireturn, 1), (17, .aload_n 0, 1), (18, .getfield 98, 3), (21, .bipush 56, 2), (23, .iaload, 1), (24, .sipush 1000, 3), (27, .if_icmp .ne 5, 3), (30, .iconst 0, 1), (31, .ireturn, 1), (32, .aload_n 0, 1), (33, .invokevirtual 299, 3), (36, .aload_n 0, 1), (37, .iload_n 1, 1), (38, .invokevirtual 324, 3), (41, .ireturn, 1)]
set_option maxRecDepth 20000 in
theorem me_X12_minutes : zdecs cX12_minutes md_X12_minutes := by
  unfold zdecs md_X12_minutes
  decide +kernel
def md_X12_when : List (Nat × Instr × Nat) := [(0, .aload_n 0, 1), (1, .iconst 0, 1), (2, .putfield 1, 3), (5, .aload_n 0, 1), (6, .iload_n 1, 1), (7, .invokevirtual 261, 3), (10, .ifCond .ne 5, 3), (13, .iconst (-1), 1), (14, .ireturn, 1), (15, .aload_n 0, 1), (16, .aload_n 0, 1), (17, .getfield 110, 3), (20, .iconst 0, 1), (21, .invokevirtual 273, 3), (24, .iconst 0, 1), (25, .istore_n 2, 1), (26, .iload_n 2, 1), (27, .sipush 300, 3), (30, .if_icmp .gt 21, 3), (33, .aload_n 0, 1), (34, .iload_n 1, 1), (35, .invokevirtual 230, 3), (38, .ifCond .eq 13, 3), (41, .aload_n 0, 1), (42, .invokevirtual 321, 3), (45, .iinc 2 1, 3), (48, .goto (-22), 3), (51, .aload_n 0, 1), (52, .getfield 98, 3), (55, .bipush 64, 2), (57, .iload_n 1, 1), (58, .iadd, 1), (59, .iaload, 1), (60, .iconst 2, 1), (61, .if_icmp .ne 7, 3), (64, .iconst 1, 1), (65, .goto 4, 3), (68, .iconst 0, 1), (69, .istore_n 3, 1), (70, .aload_n 0, 1), (71, .aload_n 0, 1), (72, .getfield 110, 3), (75, .iconst 0, 1), (76, .invokevirtual 309, 3), (79, .iload_n 3, 1), (80, .ifCond .eq 14, 3), (83, .iload_n 2, 1), (84, .sipush 300, 3), (87, .if_icmp .gt 7, 3), (90, .iload_n 2, 1), (91, .goto 4, 3), (94, .iconst (-1), 1), (95, .ireturn, 1)]
set_option maxRecDepth 20000 in
theorem me_X12_when : zdecs cX12_when md_X12_when := by
  unfold zdecs md_X12_when
  decide +kernel
def md_X12_load : List (Nat × Instr × Nat) := [(0, .aload_n 0, 1), (1, .iconst 0, 1), (2, .putfield 1, 3), (5, .aload_n 0, 1), (6, .iload_n 1, 1), (7, .invokevirtual 249, 3), (10, .ifCond .eq 14, 3), (13, .iload_n 2, 1), (14, .iconst 0, 1), (15, .sipush 200, 3), (18, .invokestatic 75, 3), (21, .ifCond .ne 5, 3), (24, .iconst (-1), 1), (25, .ireturn, 1), (26, .aload_n 0, 1), (27, .aload_n 0, 1), (28, .getfield 110, 3), (31, .iconst 0, 1), (32, .invokevirtual 273, 3), (35, .aload_n 0, 1), (36, .iload_n 2, 1), (37, .invokevirtual 318, 3), (40, .aload_n 0, 1), (41, .iload_n 1, 1), (42, .invokevirtual 237, 3), (45, .istore_n 3, 1), (46, .aload_n 0, 1), (47, .aload_n 0, 1), (48, .getfield 110, 3), (51, .iconst 0, 1), (52, .invokevirtual 309, 3), (55, .iload_n 3, 1), (56, .ireturn, 1)]
set_option maxRecDepth 20000 in
theorem me_X12_load : zdecs cX12_load md_X12_load := by
  unfold zdecs md_X12_load
  decide +kernel
def md_X12_spoiltLater : List (Nat × Instr × Nat) := [(0, .aload_n 0, 1), (1, .sipush 200, 3), (4, .invokevirtual 318, 3), (7, .aload_n 0, 1), (8, .iconst 3, 1), (9, .invokevirtual 267, 3), (12, .ireturn, 1)]
set_option maxRecDepth 20000 in
theorem me_X12_spoiltLater : zdecs cX12_spoiltLater md_X12_spoiltLater := by
  unfold zdecs md_X12_spoiltLater
  decide +kernel
def md_X12_isClear : List (Nat × Instr × Nat) := [(0, .aload_n 0, 1), (1, .iload_n 1, 1), (2, .invokevirtual 280, 3), (5, .ifCond .eq 5, 3), (8, .iconst 0, 1), (9, .ireturn, 1), (10, .aload_n 0, 1), (11, .aload_n 0, 1), (12, .getfield 110, 3), (15, .iconst 0, 1), (16, .invokevirtual 273, 3), (19, .aload_n 0, 1), (20, .invokevirtual 327, 3), (23, .istore_n 2, 1), (24, .aload_n 0, 1), (25, .aload_n 0, 1), (26, .getfield 110, 3), (29, .iconst 0, 1), (30, .invokevirtual 309, 3), (33, .aload_n 0, 1), (34, .iload_n 1, 1), (35, .invokevirtual 293, 3), (38, .aload_n 0, 1), (39, .invokevirtual 327, 3), (42, .istore_n 3, 1), (43, .aload_n 0, 1), (44, .getfield 98, 3), (47, .bipush 64, 2), (49, .iload_n 1, 1), (50, .iadd, 1), (51, .iaload, 1), (52, .iconst 2, 1), (53, .if_icmp .ne 15, 3), (56, .iload_n 3, 1), (57, .iload_n 2, 1), (58, .iconst (-1), 1), (59, .ixor, 1), (60, .iand, 1), (61, .ifCond .ne 7, 3), (64, .iconst 1, 1), (65, .goto 4, 3), (68, .iconst 0, 1), (69, .istore 4, 2), (71, .aload_n 0, 1), (72, .aload_n 0, 1), (73, .getfield 110, 3), (76, .iconst 0, 1), (77, .invokevirtual 309, 3), (80, .iload 4, 2), (82, .ireturn, 1)]
set_option maxRecDepth 20000 in
theorem me_X12_isClear : zdecs cX12_isClear md_X12_isClear := by
  unfold zdecs md_X12_isClear
  decide +kernel
def md_X12_waitFor : List (Nat × Instr × Nat) := [(0, .iconst 0, 1), (1, .istore_n 2, 1), (2, .iload_n 2, 1), (3, .bipush 60, 2), (5, .if_icmp .gt 23, 3), (8, .aload_n 0, 1), (9, .iload_n 1, 1), (10, .invokevirtual 330, 3), (13, .ifCond .eq 5, 3), (16, .iload_n 2, 1), (17, .ireturn, 1), (18, .aload_n 0, 1), (19, .invokevirtual 321, 3), (22, .iinc 2 1, 3), (25, .goto (-23), 3), (28, .iconst (-1), 1), (29, .ireturn, 1)]
set_option maxRecDepth 20000 in
theorem me_X12_waitFor : zdecs cX12_waitFor md_X12_waitFor := by
  unfold zdecs md_X12_waitFor
  decide +kernel
def md_X12_clear : List (Nat × Instr × Nat) := [(0, .aload_n 0, 1), (1, .iconst 0, 1), (2, .putfield 1, 3), (5, .aload_n 0, 1), (6, .iload_n 1, 1), (7, .invokevirtual 261, 3), (10, .ifCond .eq 11, 3), (13, .aload_n 0, 1), (14, .iload_n 1, 1), (15, .invokevirtual 246, 3), (18, .ifCond .ne 5, 3), (21, .iconst (-1), 1), (22, .ireturn, 1), (23, .aload_n 0, 1), (24, .aload_n 0, 1), (25, .getfield 113, 3), (28, .iconst 0, 1), (29, .invokevirtual 273, 3), (32, .aload_n 0, 1), (33, .iload_n 1, 1), (34, .invokevirtual 333, 3), (37, .istore_n 2, 1), (38, .aload_n 0, 1), (39, .aload_n 0, 1), (40, .getfield 113, 3), (43, .iconst 0, 1), (44, .invokevirtual 309, 3), (47, .iload_n 2, 1), (48, .ireturn, 1)]
set_option maxRecDepth 20000 in
theorem me_X12_clear : zdecs cX12_clear md_X12_clear := by
  unfold zdecs md_X12_clear
  decide +kernel
def md_X12_areDone : List (Nat × Instr × Nat) := [(0, .iconst 0, 1), (1, .istore_n 2, 1), (2, .iload_n 2, 1), (3, .iload_n 1, 1), (4, .if_icmp .ge 29, 3), (7, .aload_n 0, 1), (8, .getfield 98, 3), (11, .bipush 64, 2), (13, .aload_n 0, 1), (14, .getfield 133, 3), (17, .iload_n 2, 1), (18, .iaload, 1), (19, .iadd, 1), (20, .iaload, 1), (21, .iconst 2, 1), (22, .if_icmp .eq 5, 3), (25, .iconst 0, 1), (26, .ireturn, 1), (27, .iinc 2 1, 3), (30, .goto (-28), 3), (33, .iconst 1, 1), (34, .ireturn, 1)]
set_option maxRecDepth 20000 in
theorem me_X12_areDone : zdecs cX12_areDone md_X12_areDone := by
  unfold zdecs md_X12_areDone
  decide +kernel
def md_X12_lastOf : List (Nat × Instr × Nat) := [(0, .iconst 0, 1), (1, .istore_n 2, 1), (2, .iconst 0, 1), (3, .istore_n 3, 1), (4, .iload_n 3, 1), (5, .iload_n 1, 1), (6, .if_icmp .ge 51, 3), (9, .aload_n 0, 1), (10, .aload_n 0, 1), (11, .getfield 133, 3), (14, .iload_n 3, 1), (15, .iaload, 1), (16, .invokevirtual 333, 3), (19, .istore 4, 2), (21, .iload 4, 2), (23, .iconst (-1), 1), (24, .if_icmp .ne 5, 3), (27, .iconst (-1), 1), (28, .ireturn, 1), (29, .iload_n 2, 1), (30, .iload 4, 2), (32, .iadd, 1), (33, .istore_n 2, 1), (34, .aload_n 0, 1), (35, .getfield 136, 3), (38, .iload_n 3, 1), (39, .iload_n 2, 1), (40, .iastore, 1), (41, .aload_n 0, 1), (42, .aload_n 0, 1), (43, .getfield 133, 3), (46, .iload_n 3, 1), (47, .iaload, 1), (48, .invokevirtual 293, 3), (51, .iinc 3 1, 3), (54, .goto (-50), 3), (57, .iconst 0, 1), (58, .istore_n 3, 1), (59, .iload_n 3, 1), (60, .sipush 200, 3), (63, .if_icmp .gt 25, 3), (66, .aload_n 0, 1), (67, .iload_n 1, 1), (68, .invokevirtual 336, 3), (71, .ifCond .eq 7, 3), (74, .iload_n 2, 1), (75, .iload_n 3, 1), (76, .iadd, 1), (77, .ireturn, 1), (78, .aload_n 0, 1), (79, .invokevirtual 321, 3), (82, .iinc 3 1, 3), (85, .goto (-26), 3), (88, .iconst (-1), 1), (89, .ireturn, 1)]
set_option maxRecDepth 20000 in
theorem me_X12_lastOf : zdecs cX12_lastOf md_X12_lastOf := by
  unfold zdecs md_X12_lastOf
  decide +kernel
def md_X12_tryRow : List (Nat × Instr × Nat) := [(0, .aload_n 0, 1), (1, .aload_n 0, 1), (2, .getfield 113, 3), (5, .iconst 0, 1), (6, .invokevirtual 273, 3), (9, .aload_n 0, 1), (10, .iload_n 1, 1), (11, .invokevirtual 339, 3), (14, .istore_n 2, 1), (15, .aload_n 0, 1), (16, .aload_n 0, 1), (17, .getfield 113, 3), (20, .iconst 0, 1), (21, .invokevirtual 309, 3), (24, .iload_n 2, 1), (25, .iconst (-1), 1), (26, .if_icmp .eq 11, 3), (29, .iload_n 2, 1), (30, .aload_n 0, 1), (31, .getfield 342, 3), (34, .if_icmp .lt 4, 3), (37, .return_, 1), (38, .aload_n 0, 1), (39, .iload_n 2, 1), (40, .putfield 342, 3), (43, .iconst 0, 1), (44, .istore_n 3, 1), (45, .iload_n 3, 1), (46, .iload_n 1, 1), (47, .if_icmp .ge 33, 3), (50, .aload_n 0, 1), (51, .getfield 139, 3), (54, .iload_n 3, 1), (55, .aload_n 0, 1), (56, .getfield 133, 3), (59, .iload_n 3, 1), (60, .iaload, 1), (61, .iastore, 1), (62, .aload_n 0, 1), (63, .getfield 142, 3), (66, .iload_n 3, 1), (67, .aload_n 0, 1), (68, .getfield 136, 3), (71, .iload_n 3, 1), (72, .iaload, 1), (73, .iastore, 1), (74, .iinc 3 1, 3), (77, .goto (-32), 3), (80, .return_, 1)]
set_option maxRecDepth 20000 in
theorem me_X12_tryRow : zdecs cX12_tryRow md_X12_tryRow := by
  unfold zdecs md_X12_tryRow
  decide +kernel
def md_X12_tryRows : List (Nat × Instr × Nat) := [(0, .iload_n 1, 1), (1, .iload_n 2, 1), (2, .if_icmp .ne 8, 3), (5, .aload_n 0, 1), (6, .iload_n 2, 1), (7, .invokevirtual 345, 3), (10, .iconst 0, 1), (11, .istore 4, 2), (13, .iload 4, 2), (15, .bipush 8, 2), (17, .if_icmp .ge 45, 3), (20, .iload_n 3, 1), (21, .iload 4, 2), (23, .invokestatic 200, 3), (26, .ifCond .ne 6, 3), (29, .goto 27, 3), (32, .aload_n 0, 1), (33, .getfield 133, 3), (36, .iload_n 1, 1), (37, .iload 4, 2), (39, .iastore, 1), (40, .aload_n 0, 1), (41, .iload_n 1, 1), (42, .iconst 1, 1), (43, .iadd, 1), (44, .iload_n 2, 1), (45, .iload_n 3, 1), (46, .iconst 1, 1), (47, .iload 4, 2), (49, .ishl, 1), (50, .iconst (-1), 1), (51, .ixor, 1), (52, .iand, 1), (53, .invokevirtual 348, 3), (56, .iinc 4 1, 3), (59, .goto (-46), 3), (62, .return_, 1)]
set_option maxRecDepth 20000 in
theorem me_X12_tryRows : zdecs cX12_tryRows md_X12_tryRows := by
  unfold zdecs md_X12_tryRows
  decide +kernel
def md_X12_order : List (Nat × Instr × Nat) := [(0, .aload_n 0, 1), (1, .iconst 0, 1), (2, .putfield 1, 3), (5, .aload_n 0, 1), (6, .invokevirtual 89, 3), (9, .istore_n 1, 1), (10, .iload_n 1, 1), (11, .iconst 1, 1), (12, .iconst 3, 1), (13, .invokestatic 75, 3), (16, .ifCond .ne 5, 3), (19, .iconst (-1), 1), (20, .ireturn, 1), (21, .iconst 0, 1), (22, .istore_n 2, 1), (23, .iconst 0, 1), (24, .istore_n 3, 1), (25, .iload_n 3, 1), (26, .iload_n 1, 1), (27, .if_icmp .ge 61, 3), (30, .aload_n 0, 1), (31, .aload_n 0, 1), (32, .getfield 7, 3), (35, .iload_n 3, 1), (36, .iaload, 1), (37, .invokevirtual 261, 3), (40, .ifCond .eq 29, 3), (43, .aload_n 0, 1), (44, .aload_n 0, 1), (45, .getfield 7, 3), (48, .iload_n 3, 1), (49, .iaload, 1), (50, .invokevirtual 246, 3), (53, .ifCond .eq 16, 3), (56, .iload_n 2, 1), (57, .aload_n 0, 1), (58, .getfield 7, 3), (61, .iload_n 3, 1), (62, .iaload, 1), (63, .invokestatic 200, 3), (66, .ifCond .eq 5, 3), (69, .iconst (-1), 1), (70, .ireturn, 1), (71, .iload_n 2, 1), (72, .iconst 1, 1), (73, .aload_n 0, 1), (74, .getfield 7, 3), (77, .iload_n 3, 1), (78, .iaload, 1), (79, .ishl, 1), (80, .ior, 1), (81, .istore_n 2, 1), (82, .iinc 3 1, 3), (85, .goto (-60), 3), (88, .aload_n 0, 1), (89, .ldc_w 352, 3), (92, .putfield 342, 3), (95, .aload_n 0, 1), (96, .iconst 0, 1), (97, .iload_n 1, 1), (98, .iload_n 2, 1), (99, .invokevirtual 348, 3), (102, .aload_n 0, 1), (103, .getfield 342, 3), (106, .ldc_w 352, 3), (109, .if_icmp .ne 5, 3), (112, .iconst (-1), 1), (113, .ireturn, 1), (114, .aload_n 0, 1), (115, .iload_n 1, 1), (116, .putfield 353, 3), (119, .iconst 0, 1), (120, .istore_n 3, 1), (121, .iload_n 3, 1), (122, .iload_n 1, 1), (123, .if_icmp .ge 33, 3), (126, .aload_n 0, 1), (127, .getfield 145, 3), (130, .iload_n 3, 1), (131, .aload_n 0, 1), (132, .getfield 139, 3), (135, .iload_n 3, 1), (136, .iaload, 1), (137, .iastore, 1), (138, .aload_n 0, 1), (139, .getfield 148, 3), (142, .iload_n 3, 1), (143, .aload_n 0, 1), (144, .getfield 142, 3), (147, .iload_n 3, 1), (148, .iaload, 1), (149, .iastore, 1), (150, .iinc 3 1, 3), (153, .goto (-32), 3), (156, .aload_n 0, 1), (157, .getfield 342, 3), (160, .ireturn, 1)]
set_option maxRecDepth 20000 in
theorem me_X12_order : zdecs cX12_order md_X12_order := by
  unfold zdecs md_X12_order
  decide +kernel
def md_X12_orderAt : List (Nat × Instr × Nat) := [(0, .aload_n 0, 1), (1, .iconst 0, 1), (2, .putfield 1, 3), (5, .iload_n 1, 1), (6, .iconst 0, 1), (7, .aload_n 0, 1), (8, .getfield 353, 3), (11, .iconst 1, 1), (12, .isub, 1), (13, .invokestatic 75, 3), (16, .ifCond .eq 12, 3), (19, .aload_n 0, 1), (20, .getfield 145, 3), (23, .iload_n 1, 1), (24, .iaload, 1), (25, .goto 4, 3), (28, .iconst (-1), 1), (29, .ireturn, 1)]
set_option maxRecDepth 20000 in
theorem me_X12_orderAt : zdecs cX12_orderAt md_X12_orderAt := by
  unfold zdecs md_X12_orderAt
  decide +kernel
def md_X12_orderWhen : List (Nat × Instr × Nat) := [(0, .aload_n 0, 1), (1, .iconst 0, 1), (2, .putfield 1, 3), (5, .iload_n 1, 1), (6, .iconst 0, 1), (7, .aload_n 0, 1), (8, .getfield 353, 3), (11, .iconst 1, 1), (12, .isub, 1), (13, .invokestatic 75, 3), (16, .ifCond .eq 12, 3), (19, .aload_n 0, 1), (20, .getfield 148, 3), (23, .iload_n 1, 1), (24, .iaload, 1), (25, .goto 4, 3), (28, .iconst (-1), 1), (29, .ireturn, 1)]
set_option maxRecDepth 20000 in
theorem me_X12_orderWhen : zdecs cX12_orderWhen md_X12_orderWhen := by
  unfold zdecs md_X12_orderWhen
  decide +kernel
def md_X12_waitingIn : List (Nat × Instr × Nat) := [(0, .iconst 0, 1), (1, .istore_n 2, 1), (2, .iconst 0, 1), (3, .istore_n 3, 1), (4, .iload_n 3, 1), (5, .aload_n 0, 1), (6, .getfield 98, 3), (9, .iconst 2, 1), (10, .iaload, 1), (11, .if_icmp .ge 26, 3), (14, .aload_n 0, 1), (15, .iload_n 3, 1), (16, .invokevirtual 246, 3), (19, .ifCond .eq 12, 3), (22, .iload_n 2, 1), (23, .aload_n 0, 1), (24, .iload_n 3, 1), (25, .iload_n 1, 1), (26, .invokevirtual 243, 3), (29, .iadd, 1), (30, .istore_n 2, 1), (31, .iinc 3 1, 3), (34, .goto (-30), 3), (37, .iload_n 2, 1), (38, .ireturn, 1)]
set_option maxRecDepth 20000 in
theorem me_X12_waitingIn : zdecs cX12_waitingIn md_X12_waitingIn := by
  unfold zdecs md_X12_waitingIn
  decide +kernel
def md_X12_jam : List (Nat × Instr × Nat) := [(0, .aload_n 0, 1), (1, .iconst 0, 1), (2, .putfield 1, 3), (5, .iconst (-1), 1), (6, .istore_n 1, 1), (7, .iconst 0, 1), (8, .istore_n 2, 1), (9, .iload_n 2, 1), (10, .aload_n 0, 1), (11, .getfield 98, 3), (14, .iconst 0, 1), (15, .iaload, 1), (16, .if_icmp .ge 49, 3), (19, .iload_n 1, 1), (20, .iconst (-1), 1), (21, .if_icmp .eq 36, 3), (24, .aload_n 0, 1), (25, .iload_n 2, 1), (26, .invokevirtual 356, 3), (29, .aload_n 0, 1), (30, .getfield 98, 3), (33, .bipush 6, 2), (35, .iload_n 1, 1), (36, .iadd, 1), (37, .iaload, 1), (38, .imul, 1), (39, .aload_n 0, 1), (40, .iload_n 1, 1), (41, .invokevirtual 356, 3), (44, .aload_n 0, 1), (45, .getfield 98, 3), (48, .bipush 6, 2), (50, .iload_n 2, 1), (51, .iadd, 1), (52, .iaload, 1), (53, .imul, 1), (54, .if_icmp .le 5, 3), (57, .iload_n 2, 1), (58, .istore_n 1, 1), (59, .iinc 2 1, 3), (62, .goto (-53), 3), (65, .iload_n 1, 1), (66, .ireturn, 1)]
set_option maxRecDepth 20000 in
theorem me_X12_jam : zdecs cX12_jam md_X12_jam := by
  unfold zdecs md_X12_jam
  decide +kernel
def md_X12_leftBy : List (Nat × Instr × Nat) := [(0, .iconst 0, 1), (1, .istore_n 3, 1), (2, .iconst 0, 1), (3, .istore 4, 2), (5, .iload 4, 2), (7, .aload_n 0, 1), (8, .getfield 98, 3), (11, .iconst 2, 1), (12, .iaload, 1), (13, .if_icmp .ge 82, 3), (16, .iload_n 1, 1), (17, .iload 4, 2), (19, .invokestatic 200, 3), (22, .ifCond .ne 6, 3), (25, .goto 64, 3), (28, .iconst 0, 1), (29, .istore 5, 2), (31, .iconst 0, 1), (32, .istore 6, 2), (34, .iload 6, 2), (36, .aload_n 0, 1), (37, .getfield 98, 3), (40, .iconst 2, 1), (41, .iaload, 1), (42, .if_icmp .ge 38, 3), (45, .iload_n 1, 1), (46, .iload 6, 2), (48, .invokestatic 200, 3), (51, .ifCond .eq 23, 3), (54, .aload_n 0, 1), (55, .iload 6, 2), (57, .iload_n 2, 1), (58, .invokevirtual 243, 3), (61, .aload_n 0, 1), (62, .iload 4, 2), (64, .iload_n 2, 1), (65, .invokevirtual 243, 3), (68, .if_icmp .ne 6, 3), (71, .iinc 5 1, 3), (74, .iinc 6 1, 3), (77, .goto (-43), 3), (80, .iload 5, 2), (82, .iload_n 3, 1), (83, .if_icmp .le 6, 3), (86, .iload 5, 2), (88, .istore_n 3, 1), (89, .iinc 4 1, 3), (92, .goto (-87), 3), (95, .iload_n 3, 1), (96, .ireturn, 1)]
set_option maxRecDepth 20000 in
theorem me_X12_leftBy : zdecs cX12_leftBy md_X12_leftBy := by
  unfold zdecs md_X12_leftBy
  decide +kernel
def md_X12_isTold : List (Nat × Instr × Nat) := [(0, .iconst 0, 1), (1, .istore_n 3, 1), (2, .iload_n 3, 1), (3, .iload_n 2, 1), (4, .if_icmp .ge 33, 3), (7, .aload_n 0, 1), (8, .iload_n 1, 1), (9, .aload_n 0, 1), (10, .getfield 7, 3), (13, .iload_n 3, 1), (14, .iaload, 1), (15, .invokevirtual 243, 3), (18, .aload_n 0, 1), (19, .getfield 7, 3), (22, .iload_n 3, 1), (23, .iconst 1, 1), (24, .iadd, 1), (25, .iaload, 1), (26, .if_icmp .eq 5, 3), (29, .iconst 0, 1), (30, .ireturn, 1), (31, .iinc 3 2, 3), (34, .goto (-32), 3), (37, .iconst 1, 1), (38, .ireturn, 1)]
set_option maxRecDepth 20000 in
theorem me_X12_isTold : zdecs cX12_isTold md_X12_isTold := by
  unfold zdecs md_X12_isTold
  decide +kernel
def md_X12_who : List (Nat × Instr × Nat) := [(0, .aload_n 0, 1), (1, .iconst 0, 1), (2, .putfield 1, 3), (5, .aload_n 0, 1), (6, .invokevirtual 89, 3), (9, .istore_n 1, 1), (10, .iload_n 1, 1), (11, .iconst 2, 1), (12, .irem, 1), (13, .ifCond .ne 15, 3), (16, .iload_n 1, 1), (17, .iconst 2, 1), (18, .idiv, 1), (19, .iconst 1, 1), (20, .bipush 6, 2), (22, .invokestatic 75, 3), (25, .ifCond .ne 5, 3), (28, .iconst (-1), 1), (29, .ireturn, 1), (30, .iconst 0, 1), (31, .istore_n 2, 1), (32, .iload_n 2, 1), (33, .iload_n 1, 1), (34, .if_icmp .ge 24, 3), (37, .aload_n 0, 1), (38, .aload_n 0, 1), (39, .getfield 7, 3), (42, .iload_n 2, 1), (43, .iaload, 1), (44, .invokevirtual 249, 3), (47, .ifCond .ne 5, 3), (50, .iconst (-1), 1), (51, .ireturn, 1), (52, .iinc 2 2, 3), (55, .goto (-23), 3), (58, .iconst 0, 1), (59, .istore_n 2, 1), (60, .iconst 0, 1), (61, .istore_n 3, 1), (62, .iload_n 3, 1), (63, .aload_n 0, 1), (64, .getfield 98, 3), (67, .iconst 2, 1), (68, .iaload, 1), (69, .if_icmp .ge 24, 3), (72, .aload_n 0, 1), (73, .iload_n 3, 1), (74, .iload_n 1, 1), (75, .invokevirtual 359, 3), (78, .ifCond .eq 9, 3), (81, .iload_n 2, 1), (82, .iconst 1, 1), (83, .iload_n 3, 1), (84, .ishl, 1), (85, .ior, 1), (86, .istore_n 2, 1), (87, .iinc 3 1, 3), (90, .goto (-28), 3), (93, .iload_n 2, 1), (94, .ifCond .ne 5, 3), (97, .iconst 0, 1), (98, .ireturn, 1), (99, .aload_n 0, 1), (100, .iconst 0, 1), (101, .putfield 151, 3), (104, .iconst 1, 1), (105, .istore_n 3, 1), (106, .iload_n 3, 1), (107, .aload_n 0, 1), (108, .getfield 98, 3), (111, .iconst 0, 1), (112, .iaload, 1), (113, .if_icmp .ge 32, 3), (116, .aload_n 0, 1), (117, .iload_n 2, 1), (118, .iload_n 3, 1), (119, .invokevirtual 362, 3), (122, .aload_n 0, 1), (123, .iload_n 2, 1), (124, .aload_n 0, 1), (125, .getfield 151, 3), (128, .invokevirtual 362, 3), (131, .if_icmp .ge 8, 3), (134, .aload_n 0, 1), (135, .iload_n 3, 1), (136, .putfield 151, 3), (139, .iinc 3 1, 3), (142, .goto (-36), 3), (145, .iload_n 2, 1), (146, .ireturn, 1)]
set_option maxRecDepth 20000 in
theorem me_X12_who : zdecs cX12_who md_X12_who := by
  unfold zdecs md_X12_who
  decide +kernel
def md_X12_ask : List (Nat × Instr × Nat) := [(0, .aload_n 0, 1), (1, .iconst 0, 1), (2, .putfield 1, 3), (5, .aload_n 0, 1), (6, .getfield 151, 3), (9, .ireturn, 1)]
set_option maxRecDepth 20000 in
theorem me_X12_ask : zdecs cX12_ask md_X12_ask := by
  unfold zdecs md_X12_ask
  decide +kernel
def md_X12_unlike : List (Nat × Instr × Nat) := [(0, .iconst 0, 1), (1, .istore_n 3, 1), (2, .iconst 0, 1), (3, .istore 4, 2), (5, .iload 4, 2), (7, .aload_n 0, 1), (8, .getfield 98, 3), (11, .iconst 0, 1), (12, .iaload, 1), (13, .if_icmp .ge 30, 3), (16, .iload_n 3, 1), (17, .aload_n 0, 1), (18, .iload_n 1, 1), (19, .iload 4, 2), (21, .invokevirtual 233, 3), (24, .aload_n 0, 1), (25, .iload_n 2, 1), (26, .iload 4, 2), (28, .invokevirtual 233, 3), (31, .isub, 1), (32, .invokestatic 365, 3), (35, .iadd, 1), (36, .istore_n 3, 1), (37, .iinc 4 1, 3), (40, .goto (-35), 3), (43, .iload_n 3, 1), (44, .ireturn, 1)]
set_option maxRecDepth 20000 in
theorem me_X12_unlike : zdecs cX12_unlike md_X12_unlike := by
  unfold zdecs md_X12_unlike
  decide +kernel
def md_X12_near : List (Nat × Instr × Nat) := [(0, .aload_n 0, 1), (1, .iconst 0, 1), (2, .putfield 1, 3), (5, .aload_n 0, 1), (6, .iload_n 1, 1), (7, .invokevirtual 258, 3), (10, .ifCond .ne 5, 3), (13, .iconst (-1), 1), (14, .ireturn, 1), (15, .iconst (-1), 1), (16, .istore_n 2, 1), (17, .iconst 0, 1), (18, .istore_n 3, 1), (19, .iload_n 3, 1), (20, .aload_n 0, 1), (21, .getfield 98, 3), (24, .iconst 1, 1), (25, .iaload, 1), (26, .if_icmp .ge 36, 3), (29, .iload_n 3, 1), (30, .iload_n 1, 1), (31, .if_icmp .eq 25, 3), (34, .iload_n 2, 1), (35, .iconst (-1), 1), (36, .if_icmp .eq 18, 3), (39, .aload_n 0, 1), (40, .iload_n 1, 1), (41, .iload_n 3, 1), (42, .invokevirtual 367, 3), (45, .aload_n 0, 1), (46, .iload_n 1, 1), (47, .iload_n 2, 1), (48, .invokevirtual 367, 3), (51, .if_icmp .ge 5, 3), (54, .iload_n 3, 1), (55, .istore_n 2, 1), (56, .iinc 3 1, 3), (59, .goto (-40), 3), (62, .iload_n 2, 1), (63, .ireturn, 1)]
set_option maxRecDepth 20000 in
theorem me_X12_near : zdecs cX12_near md_X12_near := by
  unfold zdecs md_X12_near
  decide +kernel
def md_X12_through : List (Nat × Instr × Nat) := [(0, .aload_n 0, 1), (1, .iconst 0, 1), (2, .putfield 1, 3), (5, .aload_n 0, 1), (6, .iload_n 1, 1), (7, .invokevirtual 258, 3), (10, .ifCond .ne 5, 3), (13, .iconst (-1), 1), (14, .ireturn, 1), (15, .iconst 0, 1), (16, .istore_n 2, 1), (17, .iconst 0, 1), (18, .istore_n 3, 1), (19, .iload_n 3, 1), (20, .aload_n 0, 1), (21, .getfield 98, 3), (24, .iconst 0, 1), (25, .iaload, 1), (26, .if_icmp .ge 18, 3), (29, .iload_n 2, 1), (30, .aload_n 0, 1), (31, .iload_n 1, 1), (32, .iload_n 3, 1), (33, .invokevirtual 233, 3), (36, .iadd, 1), (37, .istore_n 2, 1), (38, .iinc 3 1, 3), (41, .goto (-22), 3), (44, .iload_n 2, 1), (45, .ireturn, 1)]
set_option maxRecDepth 20000 in
theorem me_X12_through : zdecs cX12_through md_X12_through := by
  unfold zdecs md_X12_through
  decide +kernel
def md_X12_arePast : List (Nat × Instr × Nat) := [(0, .iconst 0, 1), (1, .istore 4, 2), (3, .iload_n 3, 1), (4, .istore 5, 2), (6, .iconst 1, 1), (7, .istore 6, 2), (9, .iconst 0, 1), (10, .istore 7, 2), (12, .iload 7, 2), (14, .aload_n 0, 1), (15, .getfield 98, 3), (18, .iconst 0, 1), (19, .iaload, 1), (20, .if_icmp .ge 78, 3), (23, .iload 4, 2), (25, .aload_n 0, 1), (26, .iload_n 1, 1), (27, .iload 7, 2), (29, .invokevirtual 233, 3), (32, .iadd, 1), (33, .istore 8, 2), (35, .iload 5, 2), (37, .aload_n 0, 1), (38, .iload_n 2, 1), (39, .iload 7, 2), (41, .invokevirtual 233, 3), (44, .iadd, 1), (45, .istore 9, 2), (47, .aload_n 0, 1), (48, .iload_n 1, 1), (49, .iload 7, 2), (51, .invokevirtual 233, 3), (54, .ifCond .le 30, 3), (57, .aload_n 0, 1), (58, .iload_n 2, 1), (59, .iload 7, 2), (61, .invokevirtual 233, 3), (64, .ifCond .le 20, 3), (67, .iload 4, 2), (69, .iload 9, 2), (71, .if_icmp .ge 13, 3), (74, .iload 5, 2), (76, .iload 8, 2), (78, .if_icmp .ge 6, 3), (81, .iconst 0, 1), (82, .istore 6, 2), (84, .iload 8, 2), (86, .istore 4, 2), (88, .iload 9, 2), (90, .istore 5, 2), (92, .iinc 7 1, 3), (95, .goto (-83), 3), (98, .iload 6, 2), (100, .ireturn, 1)]
set_option maxRecDepth 20000 in
theorem me_X12_arePast : zdecs cX12_arePast md_X12_arePast := by
  unfold zdecs md_X12_arePast
  decide +kernel
def md_X12_gapOf : List (Nat × Instr × Nat) := [(0, .iconst 0, 1), (1, .istore_n 3, 1), (2, .aload_n 0, 1), (3, .iload_n 1, 1), (4, .iload_n 2, 1), (5, .iload_n 3, 1), (6, .invokevirtual 370, 3), (9, .ifCond .ne 9, 3), (12, .iinc 3 1, 3), (15, .goto (-13), 3), (18, .iload_n 3, 1), (19, .ireturn, 1)]
set_option maxRecDepth 20000 in
theorem me_X12_gapOf : zdecs cX12_gapOf md_X12_gapOf := by
  unfold zdecs md_X12_gapOf
  decide +kernel
def md_X12_gap : List (Nat × Instr × Nat) := [(0, .aload_n 0, 1), (1, .iconst 0, 1), (2, .putfield 1, 3), (5, .aload_n 0, 1), (6, .iload_n 1, 1), (7, .invokevirtual 258, 3), (10, .ifCond .eq 20, 3), (13, .aload_n 0, 1), (14, .iload_n 2, 1), (15, .invokevirtual 258, 3), (18, .ifCond .eq 12, 3), (21, .aload_n 0, 1), (22, .iload_n 1, 1), (23, .iload_n 2, 1), (24, .invokevirtual 373, 3), (27, .goto 4, 3), (30, .iconst (-1), 1), (31, .ireturn, 1)]
set_option maxRecDepth 20000 in
theorem me_X12_gap : zdecs cX12_gap md_X12_gap := by
  unfold zdecs md_X12_gap
  decide +kernel
def md_X12_tryChains : List (Nat × Instr × Nat) := [(0, .iload_n 2, 1), (1, .ifCond .ne 47, 3), (4, .iload_n 3, 1), (5, .aload_n 0, 1), (6, .getfield 376, 3), (9, .if_icmp .lt 4, 3), (12, .return_, 1), (13, .aload_n 0, 1), (14, .iload_n 3, 1), (15, .putfield 376, 3), (18, .iconst 0, 1), (19, .istore 4, 2), (21, .iload 4, 2), (23, .iload_n 1, 1), (24, .if_icmp .ge 23, 3), (27, .aload_n 0, 1), (28, .getfield 157, 3), (31, .iload 4, 2), (33, .aload_n 0, 1), (34, .getfield 154, 3), (37, .iload 4, 2), (39, .iaload, 1), (40, .iastore, 1), (41, .iinc 4 1, 3), (44, .goto (-23), 3), (47, .return_, 1), (48, .iconst 0, 1), (49, .istore 4, 2), (51, .iload 4, 2), (53, .iconst 5, 1), (54, .if_icmp .ge 68, 3), (57, .iload_n 2, 1), (58, .iload 4, 2), (60, .invokestatic 200, 3), (63, .ifCond .ne 6, 3), (66, .goto 50, 3), (69, .aload_n 0, 1), (70, .getfield 154, 3), (73, .iload_n 1, 1), (74, .iload 4, 2), (76, .iastore, 1), (77, .aload_n 0, 1), (78, .iload_n 1, 1), (79, .iconst 1, 1), (80, .iadd, 1), (81, .iload_n 2, 1), (82, .iconst 1, 1), (83, .iload 4, 2), (85, .ishl, 1), (86, .iconst (-1), 1), (87, .ixor, 1), (88, .iand, 1), (89, .iload_n 1, 1), (90, .ifCond .ne 7, 3), (93, .iconst 0, 1), (94, .goto 19, 3), (97, .iload_n 3, 1), (98, .aload_n 0, 1), (99, .aload_n 0, 1), (100, .getfield 154, 3), (103, .iload_n 1, 1), (104, .iconst 1, 1), (105, .isub, 1), (106, .iaload, 1), (107, .iload 4, 2), (109, .invokevirtual 373, 3), (112, .iadd, 1), (113, .invokevirtual 379, 3), (116, .iinc 4 1, 3), (119, .goto (-68), 3), (122, .return_, 1)]
set_option maxRecDepth 20000 in
theorem me_X12_tryChains : zdecs cX12_tryChains md_X12_tryChains := by
  unfold zdecs md_X12_tryChains
  decide +kernel
def md_X12_chain : List (Nat × Instr × Nat) := [(0, .aload_n 0, 1), (1, .iconst 0, 1), (2, .putfield 1, 3), (5, .aload_n 0, 1), (6, .ldc_w 352, 3), (9, .putfield 376, 3), (12, .aload_n 0, 1), (13, .aload_n 0, 1), (14, .getfield 98, 3), (17, .iconst 1, 1), (18, .iaload, 1), (19, .putfield 382, 3), (22, .aload_n 0, 1), (23, .iconst 0, 1), (24, .iconst 1, 1), (25, .aload_n 0, 1), (26, .getfield 382, 3), (29, .ishl, 1), (30, .iconst 1, 1), (31, .isub, 1), (32, .iconst 0, 1), (33, .invokevirtual 379, 3), (36, .aload_n 0, 1), (37, .getfield 376, 3), (40, .ireturn, 1)]
set_option maxRecDepth 20000 in
theorem me_X12_chain : zdecs cX12_chain md_X12_chain := by
  unfold zdecs md_X12_chain
  decide +kernel
def md_X12_chainAt : List (Nat × Instr × Nat) := [(0, .aload_n 0, 1), (1, .iconst 0, 1), (2, .putfield 1, 3), (5, .iload_n 1, 1), (6, .iconst 0, 1), (7, .aload_n 0, 1), (8, .getfield 382, 3), (11, .iconst 1, 1), (12, .isub, 1), (13, .invokestatic 75, 3), (16, .ifCond .eq 12, 3), (19, .aload_n 0, 1), (20, .getfield 157, 3), (23, .iload_n 1, 1), (24, .iaload, 1), (25, .goto 4, 3), (28, .iconst (-1), 1), (29, .ireturn, 1)]
set_option maxRecDepth 20000 in
theorem me_X12_chainAt : zdecs cX12_chainAt md_X12_chainAt := by
  unfold zdecs md_X12_chainAt
  decide +kernel
def md_X12_block : List (Nat × Instr × Nat) := [(0, .aload_n 0, 1), (1, .iconst 0, 1), (2, .putfield 1, 3), (5, .aload_n 0, 1), (6, .iload_n 1, 1), (7, .invokevirtual 261, 3), (10, .ifCond .eq 11, 3), (13, .aload_n 0, 1), (14, .iload_n 1, 1), (15, .invokevirtual 270, 3), (18, .ifCond .ne 5, 3), (21, .iconst (-1), 1), (22, .ireturn, 1), (23, .aload_n 0, 1), (24, .iload_n 1, 1), (25, .aload_n 0, 1), (26, .getfield 98, 3), (29, .bipush 72, 2), (31, .iload_n 1, 1), (32, .iadd, 1), (33, .iaload, 1), (34, .invokevirtual 277, 3), (37, .istore_n 2, 1), (38, .iload_n 2, 1), (39, .iconst (-1), 1), (40, .if_icmp .ne 7, 3), (43, .iconst 0, 1), (44, .goto 8, 3), (47, .aload_n 0, 1), (48, .iload_n 2, 1), (49, .invokevirtual 237, 3), (52, .ireturn, 1)]
set_option maxRecDepth 20000 in
theorem me_X12_block : zdecs cX12_block md_X12_block := by
  unfold zdecs md_X12_block
  decide +kernel
def md_X12_partOf : List (Nat × Instr × Nat) := [(0, .iload_n 3, 1), (1, .ifCond .ne 7, 3), (4, .iload_n 1, 1), (5, .goto 4, 3), (8, .iload_n 2, 1), (9, .iload_n 1, 1), (10, .iload_n 2, 1), (11, .invokestatic 385, 3), (14, .idiv, 1), (15, .ireturn, 1)]
set_option maxRecDepth 20000 in
theorem me_X12_partOf : zdecs cX12_partOf md_X12_partOf := by
  unfold zdecs md_X12_partOf
  decide +kernel
def md_X12_wear : List (Nat × Instr × Nat) := [(0, .aload_n 0, 1), (1, .iconst 0, 1), (2, .putfield 1, 3), (5, .aload_n 0, 1), (6, .iload_n 1, 1), (7, .invokevirtual 249, 3), (10, .ifCond .eq 12, 3), (13, .iload_n 2, 1), (14, .iconst 0, 1), (15, .iconst 1, 1), (16, .invokestatic 75, 3), (19, .ifCond .ne 8, 3), (22, .aload_n 0, 1), (23, .invokevirtual 264, 3), (26, .ireturn, 1), (27, .aload_n 0, 1), (28, .aload_n 0, 1), (29, .getfield 98, 3), (32, .bipush 58, 2), (34, .iload_n 1, 1), (35, .iadd, 1), (36, .iaload, 1), (37, .aload_n 0, 1), (38, .getfield 98, 3), (41, .bipush 12, 2), (43, .iload_n 1, 1), (44, .iadd, 1), (45, .iaload, 1), (46, .iload_n 2, 1), (47, .invokevirtual 388, 3), (50, .ireturn, 1)]
set_option maxRecDepth 20000 in
theorem me_X12_wear : zdecs cX12_wear md_X12_wear := by
  unfold zdecs md_X12_wear
  decide +kernel
def md_X12_mean : List (Nat × Instr × Nat) := [(0, .aload_n 0, 1), (1, .iconst 0, 1), (2, .putfield 1, 3), (5, .aload_n 0, 1), (6, .getfield 98, 3), (9, .iconst 2, 1), (10, .iaload, 1), (11, .istore_n 2, 1), (12, .iload_n 2, 1), (13, .ifCond .eq 12, 3), (16, .iload_n 1, 1), (17, .iconst 0, 1), (18, .iconst 1, 1), (19, .invokestatic 75, 3), (22, .ifCond .ne 8, 3), (25, .aload_n 0, 1), (26, .invokevirtual 264, 3), (29, .ireturn, 1), (30, .iconst 0, 1), (31, .istore_n 3, 1), (32, .iconst 0, 1), (33, .istore 4, 2), (35, .iload 4, 2), (37, .iload_n 2, 1), (38, .if_icmp .ge 22, 3), (41, .iload_n 3, 1), (42, .aload_n 0, 1), (43, .getfield 98, 3), (46, .bipush 96, 2), (48, .iload 4, 2), (50, .iadd, 1), (51, .iaload, 1), (52, .iadd, 1), (53, .istore_n 3, 1), (54, .iinc 4 1, 3), (57, .goto (-22), 3), (60, .aload_n 0, 1), (61, .iload_n 3, 1), (62, .iload_n 2, 1), (63, .iload_n 1, 1), (64, .invokevirtual 388, 3), (67, .ireturn, 1)]
set_option maxRecDepth 20000 in
theorem me_X12_mean : zdecs cX12_mean md_X12_mean := by
  unfold zdecs md_X12_mean
  decide +kernel
def md_X12_often : List (Nat × Instr × Nat) := [(0, .aload_n 0, 1), (1, .iconst 0, 1), (2, .putfield 1, 3), (5, .iconst (-1), 1), (6, .istore_n 1, 1), (7, .iconst 0, 1), (8, .istore_n 2, 1), (9, .iload_n 2, 1), (10, .aload_n 0, 1), (11, .getfield 98, 3), (14, .iconst 2, 1), (15, .iaload, 1), (16, .if_icmp .ge 41, 3), (19, .aload_n 0, 1), (20, .getfield 98, 3), (23, .bipush 104, 2), (25, .iload_n 2, 1), (26, .iadd, 1), (27, .iaload, 1), (28, .iload_n 1, 1), (29, .iconst (-1), 1), (30, .if_icmp .ne 7, 3), (33, .iconst 0, 1), (34, .goto 12, 3), (37, .aload_n 0, 1), (38, .getfield 98, 3), (41, .bipush 104, 2), (43, .iload_n 1, 1), (44, .iadd, 1), (45, .iaload, 1), (46, .if_icmp .le 5, 3), (49, .iload_n 2, 1), (50, .istore_n 1, 1), (51, .iinc 2 1, 3), (54, .goto (-45), 3), (57, .iload_n 1, 1), (58, .ireturn, 1)]
set_option maxRecDepth 20000 in
theorem me_X12_often : zdecs cX12_often md_X12_often := by
  unfold zdecs md_X12_often
  decide +kernel
def md_X12_write : List (Nat × Instr × Nat) := [(0, .aload_n 0, 1), (1, .getfield 160, 3), (4, .aload_n 0, 1), (5, .getfield 392, 3), (8, .iload_n 1, 1), (9, .iastore, 1), (10, .aload_n 0, 1), (11, .dup, 1), (12, .getfield 392, 3), (15, .iconst 1, 1), (16, .iadd, 1), (17, .putfield 392, 3), (20, .return_, 1)]
set_option maxRecDepth 20000 in
theorem me_X12_write : zdecs cX12_write md_X12_write := by
  unfold zdecs md_X12_write
  decide +kernel
def md_X12_writeWord : List (Nat × Instr × Nat) := [(0, .lload_n 1, 1), (1, .ldc2_w 54, 3), (4, .lcmp, 1), (5, .ifCond .lt 12, 3), (8, .aload_n 0, 1), (9, .lload_n 1, 1), (10, .ldc2_w 54, 3), (13, .ldiv, 1), (14, .invokevirtual 395, 3), (17, .aload_n 0, 1), (18, .bipush 96, 2), (20, .lload_n 1, 1), (21, .ldc2_w 54, 3), (24, .lrem, 1), (25, .l2i, 1), (26, .iadd, 1), (27, .invokevirtual 399, 3), (30, .return_, 1)]
set_option maxRecDepth 20000 in
theorem me_X12_writeWord : zdecs cX12_writeWord md_X12_writeWord := by
  unfold zdecs md_X12_writeWord
  decide +kernel
def md_X12_writeNext : List (Nat × Instr × Nat) := [(0, .aload_n 0, 1), (1, .bipush 32, 2), (3, .invokevirtual 399, 3), (6, .aload_n 0, 1), (7, .lload_n 1, 1), (8, .invokevirtual 395, 3), (11, .return_, 1)]
set_option maxRecDepth 20000 in
theorem me_X12_writeNext : zdecs cX12_writeNext md_X12_writeNext := by
  unfold zdecs md_X12_writeNext
  decide +kernel
def md_X12_writeNumber : List (Nat × Instr × Nat) := [(0, .iload_n 1, 1), (1, .bipush 9, 2), (3, .if_icmp .le 11, 3), (6, .aload_n 0, 1), (7, .iload_n 1, 1), (8, .bipush 10, 2), (10, .idiv, 1), (11, .invokevirtual 402, 3), (14, .aload_n 0, 1), (15, .bipush 48, 2), (17, .iload_n 1, 1), (18, .bipush 10, 2), (20, .irem, 1), (21, .iadd, 1), (22, .invokevirtual 399, 3), (25, .return_, 1)]
set_option maxRecDepth 20000 in
theorem me_X12_writeNumber : zdecs cX12_writeNumber md_X12_writeNumber := by
  unfold zdecs md_X12_writeNumber
  decide +kernel
def md_X12_tag : List (Nat × Instr × Nat) := [(0, .aload_n 0, 1), (1, .iconst 0, 1), (2, .putfield 1, 3), (5, .aload_n 0, 1), (6, .iload_n 1, 1), (7, .invokevirtual 261, 3), (10, .ifCond .ne 5, 3), (13, .iconst (-1), 1), (14, .ireturn, 1), (15, .aload_n 0, 1), (16, .iconst 0, 1), (17, .putfield 392, 3), (20, .aload_n 0, 1), (21, .aload_n 0, 1), (22, .getfield 119, 3), (25, .bipush 11, 2), (27, .iload_n 1, 1), (28, .iadd, 1), (29, .laload, 1), (30, .invokevirtual 395, 3), (33, .aload_n 0, 1), (34, .iload_n 1, 1), (35, .invokevirtual 230, 3), (38, .ifCond .ne 64, 3), (41, .aload_n 0, 1), (42, .aload_n 0, 1), (43, .iload_n 1, 1), (44, .invokevirtual 246, 3), (47, .ifCond .eq 21, 3), (50, .bipush 119, 2), (52, .bipush 97, 2), (54, .bipush 105, 2), (56, .bipush 116, 2), (58, .bipush 115, 2), (60, .iconst 0, 1), (61, .iconst 0, 1), (62, .invokestatic 58, 3), (65, .goto 29, 3), (68, .aload_n 0, 1), (69, .getfield 98, 3), (72, .bipush 64, 2), (74, .iload_n 1, 1), (75, .iadd, 1), (76, .iaload, 1), (77, .iconst 2, 1), (78, .if_icmp .ne 11, 3), (81, .bipush 15, 2), (83, .invokestatic 62, 3), (86, .goto 8, 3), (89, .bipush 16, 2), (91, .invokestatic 62, 3), (94, .invokevirtual 405, 3), (97, .aload_n 0, 1), (98, .getfield 392, 3), (101, .ireturn, 1), (102, .aload_n 0, 1), (103, .bipush 18, 2), (105, .invokestatic 62, 3), (108, .invokevirtual 405, 3), (111, .aload_n 0, 1), (112, .aload_n 0, 1), (113, .getfield 119, 3), (116, .aload_n 0, 1), (117, .getfield 98, 3), (120, .bipush 72, 2), (122, .iload_n 1, 1), (123, .iadd, 1), (124, .iaload, 1), (125, .laload, 1), (126, .invokevirtual 405, 3), (129, .aload_n 0, 1), (130, .bipush 32, 2), (132, .invokevirtual 399, 3), (135, .aload_n 0, 1), (136, .aload_n 0, 1), (137, .getfield 98, 3), (140, .bipush 80, 2), (142, .iload_n 1, 1), (143, .iadd, 1), (144, .iaload, 1), (145, .invokevirtual 402, 3), (148, .aload_n 0, 1), (149, .getfield 392, 3), (152, .ireturn, 1)]
set_option maxRecDepth 20000 in
theorem me_X12_tag : zdecs cX12_tag md_X12_tag := by
  unfold zdecs md_X12_tag
  decide +kernel
def md_X12_byteAt : List (Nat × Instr × Nat) := [(0, .aload_n 0, 1), (1, .iconst 0, 1), (2, .putfield 1, 3), (5, .iload_n 1, 1), (6, .iconst 0, 1), (7, .aload_n 0, 1), (8, .getfield 392, 3), (11, .iconst 1, 1), (12, .isub, 1), (13, .invokestatic 75, 3), (16, .ifCond .eq 12, 3), (19, .aload_n 0, 1), (20, .getfield 160, 3), (23, .iload_n 1, 1), (24, .iaload, 1), (25, .goto 4, 3), (28, .iconst (-1), 1), (29, .ireturn, 1)]
set_option maxRecDepth 20000 in
theorem me_X12_byteAt : zdecs cX12_byteAt md_X12_byteAt := by
  unfold zdecs md_X12_byteAt
  decide +kernel
def md_X12_draw : List (Nat × Instr × Nat) := [(0, .aload_n 0, 1), (1, .aload_n 0, 1), (2, .getfield 408, 3), (5, .ldc_w 411, 3), (8, .imul, 1), (9, .sipush 12345, 3), (12, .iadd, 1), (13, .putfield 408, 3), (16, .aload_n 0, 1), (17, .getfield 408, 3), (20, .bipush 8, 2), (22, .iushr, 1), (23, .iload_n 1, 1), (24, .irem, 1), (25, .ireturn, 1)]
set_option maxRecDepth 20000 in
theorem me_X12_draw : zdecs cX12_draw md_X12_draw := by
  unfold zdecs md_X12_draw
  decide +kernel
def md_X12_doIf : List (Nat × Instr × Nat) := [(0, .aload_n 0, 1), (1, .iload_n 1, 1), (2, .iload_n 2, 1), (3, .invokevirtual 296, 3), (6, .ifCond .ne 9, 3), (9, .aload_n 0, 1), (10, .iload_n 1, 1), (11, .iload_n 2, 1), (12, .invokevirtual 302, 3), (15, .return_, 1)]
set_option maxRecDepth 20000 in
theorem me_X12_doIf : zdecs cX12_doIf md_X12_doIf := by
  unfold zdecs md_X12_doIf
  decide +kernel
def md_X12_drawsFirst : List (Nat × Instr × Nat) := [(0, .aload_n 0, 1), (1, .bipush 8, 2), (3, .invokevirtual 412, 3), (6, .istore_n 1, 1), (7, .aload_n 0, 1), (8, .getfield 98, 3), (11, .iconst 2, 1), (12, .iaload, 1), (13, .istore_n 2, 1), (14, .iload_n 1, 1), (15, .iconst 3, 1), (16, .if_icmp .ge 17, 3), (19, .iload_n 2, 1), (20, .ifCond .le 13, 3), (23, .aload_n 0, 1), (24, .iconst 0, 1), (25, .aload_n 0, 1), (26, .iload_n 2, 1), (27, .invokevirtual 412, 3), (30, .invokevirtual 415, 3), (33, .iload_n 1, 1), (34, .iconst 3, 1), (35, .if_icmp .ne 17, 3), (38, .iload_n 2, 1), (39, .ifCond .le 13, 3), (42, .aload_n 0, 1), (43, .iconst 2, 1), (44, .aload_n 0, 1), (45, .iload_n 2, 1), (46, .invokevirtual 412, 3), (49, .invokevirtual 415, 3), (52, .iload_n 1, 1), (53, .iconst 4, 1), (54, .if_icmp .ne 27, 3), (57, .aload_n 0, 1), (58, .getfield 98, 3), (61, .iconst 0, 1), (62, .iaload, 1), (63, .ifCond .le 18, 3), (66, .aload_n 0, 1), (67, .iconst 3, 1), (68, .aload_n 0, 1), (69, .aload_n 0, 1), (70, .getfield 98, 3), (73, .iconst 0, 1), (74, .iaload, 1), (75, .invokevirtual 412, 3), (78, .invokevirtual 415, 3), (81, .iload_n 1, 1), (82, .iconst 5, 1), (83, .if_icmp .ne 25, 3), (86, .aload_n 0, 1), (87, .iconst 4, 1), (88, .invokevirtual 412, 3), (91, .ifCond .ne 17, 3), (94, .iload_n 2, 1), (95, .ifCond .le 13, 3), (98, .aload_n 0, 1), (99, .iconst 1, 1), (100, .aload_n 0, 1), (101, .iload_n 2, 1), (102, .invokevirtual 412, 3), (105, .invokevirtual 415, 3), (108, .return_, 1)]
set_option maxRecDepth 20000 in
theorem me_X12_drawsFirst : zdecs cX12_drawsFirst md_X12_drawsFirst := by
  unfold zdecs md_X12_drawsFirst
  decide +kernel
def md_X12_drawMinutes : List (Nat × Instr × Nat) := [(0, .aload_n 0, 1), (1, .iload_n 2, 1), (2, .putfield 408, 3), (5, .iload_n 1, 1), (6, .sipush 1000, 3), (9, .aload_n 0, 1), (10, .getfield 98, 3), (13, .bipush 56, 2), (15, .iaload, 1), (16, .isub, 1), (17, .invokestatic 315, 3), (20, .istore_n 3, 1), (21, .iconst 0, 1), (22, .istore 4, 2), (24, .iload 4, 2), (26, .iload_n 3, 1), (27, .if_icmp .ge 17, 3), (30, .aload_n 0, 1), (31, .invokevirtual 418, 3), (34, .aload_n 0, 1), (35, .invokevirtual 321, 3), (38, .iinc 4 1, 3), (41, .goto (-17), 3), (44, .iload_n 3, 1), (45, .ireturn, 1)]
set_option maxRecDepth 20000 in
theorem me_X12_drawMinutes : zdecs cX12_drawMinutes md_X12_drawMinutes := by
  unfold zdecs md_X12_drawMinutes
  decide +kernel
def md_X12_drawn : List (Nat × Instr × Nat) := [(0, .aload_n 0, 1), (1, .iconst 0, 1), (2, .putfield 1, 3), (5, .iload_n 1, 1), (6, .iconst 1, 1), (7, .bipush 60, 2), (9, .invokestatic 75, 3), (12, .ifCond .ne 5, 3), (15, .iconst (-1), 1), (16, .ireturn, 1), (17, .aload_n 0, 1), (18, .getfield 98, 3), (21, .bipush 56, 2), (23, .iaload, 1), (24, .sipush 1000, 3), (27, .if_icmp .ne 5, 3), (30, .iconst 0, 1), (31, .ireturn, 1), (32, .aload_n 0, 1), (33, .invokevirtual 299, 3), (36, .aload_n 0, 1), (37, .iload_n 1, 1), (38, .iload_n 2, 1), (39, .invokevirtual 421, 3), (42, .ireturn, 1)]
set_option maxRecDepth 20000 in
theorem me_X12_drawn : zdecs cX12_drawn md_X12_drawn := by
  unfold zdecs md_X12_drawn
  decide +kernel
def md_X12_odds : List (Nat × Instr × Nat) := [(0, .aload_n 0, 1), (1, .iconst 0, 1), (2, .putfield 1, 3), (5, .aload_n 0, 1), (6, .iload_n 1, 1), (7, .invokevirtual 261, 3), (10, .ifCond .eq 13, 3), (13, .iload_n 2, 1), (14, .iconst 1, 1), (15, .bipush 30, 2), (17, .invokestatic 75, 3), (20, .ifCond .ne 5, 3), (23, .iconst (-1), 1), (24, .ireturn, 1), (25, .aload_n 0, 1), (26, .aload_n 0, 1), (27, .getfield 116, 3), (30, .iconst 0, 1), (31, .invokevirtual 273, 3), (34, .iconst 0, 1), (35, .istore 4, 2), (37, .iconst 0, 1), (38, .istore 5, 2), (40, .iload 5, 2), (42, .iload_n 2, 1), (43, .if_icmp .ge 45, 3), (46, .aload_n 0, 1), (47, .bipush 40, 2), (49, .iload_n 3, 1), (50, .iload 5, 2), (52, .iadd, 1), (53, .invokevirtual 421, 3), (56, .pop, 1), (57, .aload_n 0, 1), (58, .getfield 98, 3), (61, .bipush 64, 2), (63, .iload_n 1, 1), (64, .iadd, 1), (65, .iaload, 1), (66, .iconst 2, 1), (67, .if_icmp .ne 6, 3), (70, .iinc 4 1, 3), (73, .aload_n 0, 1), (74, .aload_n 0, 1), (75, .getfield 116, 3), (78, .iconst 0, 1), (79, .invokevirtual 309, 3), (82, .iinc 5 1, 3), (85, .goto (-45), 3), (88, .iload 4, 2), (90, .ireturn, 1)]
set_option maxRecDepth 20000 in
theorem me_X12_odds : zdecs cX12_odds md_X12_odds := by
  unfold zdecs md_X12_odds
  decide +kernel
def md_X12_keep : List (Nat × Instr × Nat) := [(0, .iload_n 2, 1), (1, .ifCond .eq 13, 3), (4, .aload_n 0, 1), (5, .getfield 163, 3), (8, .iload_n 1, 1), (9, .aload_n 0, 1), (10, .getfield 79, 3), (13, .iastore, 1), (14, .iload_n 2, 1), (15, .ireturn, 1)]
set_option maxRecDepth 20000 in
theorem me_X12_keep : zdecs cX12_keep md_X12_keep := by
  unfold zdecs md_X12_keep
  decide +kernel
def md_X12_readNamed : List (Nat × Instr × Nat) := [(0, .aload_n 0, 1), (1, .invokevirtual 175, 3), (4, .ifCond .ne 9, 3), (7, .aload_n 0, 1), (8, .iconst 1, 1), (9, .invokevirtual 72, 3), (12, .ireturn, 1), (13, .aload_n 0, 1), (14, .aload_n 0, 1), (15, .getfield 119, 3), (18, .iload_n 1, 1), (19, .iload_n 2, 1), (20, .aload_n 0, 1), (21, .getfield 43, 3), (24, .invokestatic 179, 3), (27, .putfield 79, 3), (30, .aload_n 0, 1), (31, .getfield 79, 3), (34, .iconst (-1), 1), (35, .if_icmp .ne 9, 3), (38, .aload_n 0, 1), (39, .iconst 3, 1), (40, .invokevirtual 72, 3), (43, .ireturn, 1), (44, .aload_n 0, 1), (45, .invokevirtual 82, 3), (48, .iconst 1, 1), (49, .ireturn, 1)]
set_option maxRecDepth 20000 in
theorem me_X12_readNamed : zdecs cX12_readNamed md_X12_readNamed := by
  unfold zdecs md_X12_readNamed
  decide +kernel
def md_X12_readBathName : List (Nat × Instr × Nat) := [(0, .aload_n 0, 1), (1, .iconst 0, 1), (2, .aload_n 0, 1), (3, .getfield 98, 3), (6, .iconst 0, 1), (7, .iaload, 1), (8, .invokevirtual 424, 3), (11, .ireturn, 1)]
set_option maxRecDepth 20000 in
theorem me_X12_readBathName : zdecs cX12_readBathName md_X12_readBathName := by
  unfold zdecs md_X12_readBathName
  decide +kernel
def md_X12_readBookLine : List (Nat × Instr × Nat) := [(0, .aload_n 0, 1), (1, .bipush 10, 2), (3, .invokevirtual 203, 3), (6, .ifCond .eq 7, 3), (9, .iconst 4, 1), (10, .goto 4, 3), (13, .iconst (-1), 1), (14, .istore_n 1, 1), (15, .iconst 0, 1), (16, .istore_n 2, 1), (17, .iload_n 2, 1), (18, .iconst 3, 1), (19, .if_icmp .gt 22, 3), (22, .aload_n 0, 1), (23, .bipush 6, 2), (25, .iload_n 2, 1), (26, .iadd, 1), (27, .invokevirtual 203, 3), (30, .ifCond .eq 5, 3), (33, .iload_n 2, 1), (34, .istore_n 1, 1), (35, .iinc 2 1, 3), (38, .goto (-21), 3), (41, .iload_n 1, 1), (42, .iconst (-1), 1), (43, .if_icmp .ne 9, 3), (46, .aload_n 0, 1), (47, .iconst 1, 1), (48, .invokevirtual 72, 3), (51, .ireturn, 1), (52, .aload_n 0, 1), (53, .getfield 427, 3), (56, .bipush 40, 2), (58, .if_icmp .ne 9, 3), (61, .aload_n 0, 1), (62, .iconst 4, 1), (63, .invokevirtual 72, 3), (66, .ireturn, 1), (67, .iconst 2, 1), (68, .aload_n 0, 1), (69, .getfield 427, 3), (72, .imul, 1), (73, .istore_n 2, 1), (74, .aload_n 0, 1), (75, .getfield 163, 3), (78, .iload_n 2, 1), (79, .iload_n 1, 1), (80, .iastore, 1), (81, .aload_n 0, 1), (82, .invokevirtual 82, 3), (85, .iload_n 1, 1), (86, .lookupswitch 83 #[(3, 26), (4, 53)], 26), (112, .aload_n 0, 1), (113, .iload_n 2, 1), (114, .iconst 1, 1), (115, .iadd, 1), (116, .aload_n 0, 1), (117, .invokevirtual 430, 3), (120, .invokevirtual 433, 3), (123, .ifCond .eq 14, 3), (126, .aload_n 0, 1), (127, .invokevirtual 224, 3), (130, .ifCond .eq 7, 3), (133, .iconst 1, 1), (134, .goto 4, 3), (137, .iconst 0, 1), (138, .ireturn, 1), (139, .aload_n 0, 1), (140, .iload_n 2, 1), (141, .iconst 1, 1), (142, .iadd, 1), (143, .aload_n 0, 1), (144, .iconst 1, 1), (145, .bipush 60, 2), (147, .invokevirtual 190, 3), (150, .invokevirtual 433, 3), (153, .ifCond .eq 14, 3), (156, .aload_n 0, 1), (157, .invokevirtual 224, 3), (160, .ifCond .eq 7, 3), (163, .iconst 1, 1), (164, .goto 4, 3), (167, .iconst 0, 1), (168, .ireturn, 1), (169, .aload_n 0, 1), (170, .iload_n 2, 1), (171, .iconst 1, 1), (172, .iadd, 1), (173, .aload_n 0, 1), (174, .bipush 11, 2), (176, .aload_n 0, 1), (177, .getfield 98, 3), (180, .iconst 2, 1), (181, .iaload, 1), (182, .invokevirtual 424, 3), (185, .invokevirtual 433, 3), (188, .ifCond .eq 14, 3), (191, .aload_n 0, 1), (192, .invokevirtual 224, 3), (195, .ifCond .eq 7, 3), (198, .iconst 1, 1), (199, .goto 4, 3), (202, .iconst 0, 1), (203, .ireturn, 1)]
set_option maxRecDepth 20000 in
theorem me_X12_readBookLine : zdecs cX12_readBookLine md_X12_readBookLine := by
  unfold zdecs md_X12_readBookLine
  decide +kernel
def md_X12_goBy : List (Nat × Instr × Nat) := [(0, .aload_n 0, 1), (1, .getfield 163, 3), (4, .iload_n 1, 1), (5, .iaload, 1), (6, .istore_n 2, 1), (7, .aload_n 0, 1), (8, .getfield 163, 3), (11, .iload_n 1, 1), (12, .iconst 1, 1), (13, .iadd, 1), (14, .iaload, 1), (15, .istore_n 3, 1), (16, .iload_n 2, 1), (17, .iconst 4, 1), (18, .if_icmp .ne 29, 3), (21, .aload_n 0, 1), (22, .getfield 98, 3), (25, .bipush 56, 2), (27, .iaload, 1), (28, .iload_n 3, 1), (29, .iadd, 1), (30, .sipush 1000, 3), (33, .if_icmp .le 6, 3), (36, .bipush 41, 2), (38, .ireturn, 1), (39, .aload_n 0, 1), (40, .iload_n 3, 1), (41, .invokevirtual 324, 3), (44, .pop, 1), (45, .iconst 0, 1), (46, .ireturn, 1), (47, .aload_n 0, 1), (48, .iload_n 2, 1), (49, .iload_n 3, 1), (50, .invokevirtual 296, 3), (53, .istore 4, 2), (55, .iload 4, 2), (57, .ifCond .eq 11, 3), (60, .bipush 10, 2), (62, .iload_n 2, 1), (63, .imul, 1), (64, .iload 4, 2), (66, .iadd, 1), (67, .ireturn, 1), (68, .aload_n 0, 1), (69, .iload_n 2, 1), (70, .iload_n 3, 1), (71, .invokevirtual 302, 3), (74, .iconst 0, 1), (75, .ireturn, 1)]
set_option maxRecDepth 20000 in
theorem me_X12_goBy : zdecs cX12_goBy md_X12_goBy := by
  unfold zdecs md_X12_goBy
  decide +kernel
def md_X12_book : List (Nat × Instr × Nat) := [(0, .aload_n 0, 1), (1, .iconst 0, 1), (2, .putfield 1, 3), (5, .iload_n 1, 1), (6, .iconst 0, 1), (7, .iconst 1, 1), (8, .invokestatic 75, 3), (11, .ifCond .ne 7, 3), (14, .sipush (-1000), 3), (17, .ireturn, 1), (18, .aload_n 0, 1), (19, .sipush 400, 3), (22, .invokevirtual 218, 3), (25, .aload_n 0, 1), (26, .iconst 0, 1), (27, .putfield 427, 3), (30, .aload_n 0, 1), (31, .getfield 30, 3), (34, .ifCond .eq 31, 3), (37, .aload_n 0, 1), (38, .invokevirtual 436, 3), (41, .ifCond .ne 11, 3), (44, .bipush (-2), 2), (46, .aload_n 0, 1), (47, .getfield 69, 3), (50, .isub, 1), (51, .ireturn, 1), (52, .aload_n 0, 1), (53, .dup, 1), (54, .getfield 427, 3), (57, .iconst 1, 1), (58, .iadd, 1), (59, .putfield 427, 3), (62, .goto (-32), 3), (65, .aload_n 0, 1), (66, .aload_n 0, 1), (67, .getfield 116, 3), (70, .iconst 0, 1), (71, .invokevirtual 273, 3), (74, .iconst 0, 1), (75, .istore_n 2, 1), (76, .iconst 0, 1), (77, .istore_n 3, 1), (78, .iload_n 2, 1), (79, .aload_n 0, 1), (80, .getfield 427, 3), (83, .if_icmp .ge 25, 3), (86, .iload_n 3, 1), (87, .ifCond .ne 21, 3), (90, .aload_n 0, 1), (91, .iconst 2, 1), (92, .iload_n 2, 1), (93, .imul, 1), (94, .invokevirtual 439, 3), (97, .istore_n 3, 1), (98, .iload_n 3, 1), (99, .ifCond .ne (-21), 3), (102, .iinc 2 1, 3), (105, .goto (-27), 3), (108, .aload_n 0, 1), (109, .getfield 166, 3), (112, .iconst 0, 1), (113, .iload_n 3, 1), (114, .iastore, 1), (115, .aload_n 0, 1), (116, .getfield 166, 3), (119, .iconst 1, 1), (120, .iload_n 2, 1), (121, .iastore, 1), (122, .aload_n 0, 1), (123, .getfield 166, 3), (126, .iconst 2, 1), (127, .aload_n 0, 1), (128, .getfield 98, 3), (131, .bipush 56, 2), (133, .iaload, 1), (134, .iastore, 1), (135, .aload_n 0, 1), (136, .getfield 166, 3), (139, .iconst 3, 1), (140, .aload_n 0, 1), (141, .iconst 2, 1), (142, .invokevirtual 267, 3), (145, .iastore, 1), (146, .aload_n 0, 1), (147, .iconst 1, 1), (148, .putfield 442, 3), (151, .aload_n 0, 1), (152, .iload_n 1, 1), (153, .iconst 1, 1), (154, .if_icmp .ne 11, 3), (157, .iload_n 2, 1), (158, .ifCond .le 7, 3), (161, .iconst 1, 1), (162, .goto 4, 3), (165, .iconst 0, 1), (166, .invokevirtual 446, 3), (169, .iload_n 3, 1), (170, .ifCond .ne 7, 3), (173, .iconst (-1), 1), (174, .goto 4, 3), (177, .iload_n 2, 1), (178, .ireturn, 1)]
set_option maxRecDepth 20000 in
theorem me_X12_book : zdecs cX12_book md_X12_book := by
  unfold zdecs md_X12_book
  decide +kernel
def md_X12_stay : List (Nat × Instr × Nat) := [(0, .aload_n 0, 1), (1, .aload_n 0, 1), (2, .getfield 110, 3), (5, .iconst 0, 1), (6, .invokevirtual 273, 3), (9, .aload_n 0, 1), (10, .aload_n 0, 1), (11, .getfield 116, 3), (14, .iconst 0, 1), (15, .invokevirtual 309, 3), (18, .iload_n 1, 1), (19, .ifCond .ne 4, 3), (22, .return_, 1), (23, .aload_n 0, 1), (24, .invokevirtual 299, 3), (27, .aload_n 0, 1), (28, .aload_n 0, 1), (29, .getfield 110, 3), (32, .iconst 0, 1), (33, .invokevirtual 309, 3), (36, .return_, 1)]
set_option maxRecDepth 20000 in
theorem me_X12_stay : zdecs cX12_stay md_X12_stay := by
  unfold zdecs md_X12_stay
  decide +kernel
def md_X12_told : List (Nat × Instr × Nat) := [(0, .aload_n 0, 1), (1, .iconst 0, 1), (2, .putfield 1, 3), (5, .aload_n 0, 1), (6, .getfield 442, 3), (9, .ifCond .eq 21, 3), (12, .iload_n 1, 1), (13, .iconst 0, 1), (14, .iconst 3, 1), (15, .invokestatic 75, 3), (18, .ifCond .eq 12, 3), (21, .aload_n 0, 1), (22, .getfield 166, 3), (25, .iload_n 1, 1), (26, .iaload, 1), (27, .goto 4, 3), (30, .iconst (-1), 1), (31, .ireturn, 1)]
set_option maxRecDepth 20000 in
theorem me_X12_told : zdecs cX12_told md_X12_told := by
  unfold zdecs md_X12_told
  decide +kernel
def md_X12_readThat : List (Nat × Instr × Nat) := [(0, .iload_n 1, 1), (1, .bipush 18, 2), (3, .if_icmp .ne 10, 3), (6, .aload_n 0, 1), (7, .invokevirtual 430, 3), (10, .goto 15, 3), (13, .aload_n 0, 1), (14, .bipush 6, 2), (16, .aload_n 0, 1), (17, .getfield 98, 3), (20, .iconst 1, 1), (21, .iaload, 1), (22, .invokevirtual 424, 3), (25, .ireturn, 1)]
set_option maxRecDepth 20000 in
theorem me_X12_readThat : zdecs cX12_readThat md_X12_readThat := by
  unfold zdecs md_X12_readThat
  decide +kernel
def md_X12_saysOne : List (Nat × Instr × Nat) := [(0, .iconst 4, 1), (1, .aload_n 0, 1), (2, .getfield 450, 3), (5, .imul, 1), (6, .istore 5, 2), (8, .aload_n 0, 1), (9, .getfield 169, 3), (12, .iload 5, 2), (14, .iload_n 1, 1), (15, .iastore, 1), (16, .aload_n 0, 1), (17, .getfield 169, 3), (20, .iload 5, 2), (22, .iconst 1, 1), (23, .iadd, 1), (24, .iload_n 2, 1), (25, .iastore, 1), (26, .aload_n 0, 1), (27, .getfield 169, 3), (30, .iload 5, 2), (32, .iconst 2, 1), (33, .iadd, 1), (34, .iload_n 3, 1), (35, .iastore, 1), (36, .aload_n 0, 1), (37, .getfield 169, 3), (40, .iload 5, 2), (42, .iconst 3, 1), (43, .iadd, 1), (44, .iload 4, 2), (46, .iastore, 1), (47, .aload_n 0, 1), (48, .dup, 1), (49, .getfield 450, 3), (52, .iconst 1, 1), (53, .iadd, 1), (54, .putfield 450, 3), (57, .aload_n 0, 1), (58, .getfield 450, 3), (61, .iconst 1, 1), (62, .isub, 1), (63, .ireturn, 1)]
set_option maxRecDepth 20000 in
theorem me_X12_saysOne : zdecs cX12_saysOne md_X12_saysOne := by
  unfold zdecs md_X12_saysOne
  decide +kernel
def md_X12_readOr : List (Nat × Instr × Nat) := [(0, .aload_n 0, 1), (1, .invokevirtual 453, 3), (4, .ifCond .ne 5, 3), (7, .iconst 0, 1), (8, .ireturn, 1), (9, .aload_n 0, 1), (10, .getfield 456, 3), (13, .istore_n 1, 1), (14, .aload_n 0, 1), (15, .bipush 11, 2), (17, .invokevirtual 203, 3), (20, .ifCond .eq 31, 3), (23, .aload_n 0, 1), (24, .invokevirtual 82, 3), (27, .aload_n 0, 1), (28, .invokevirtual 453, 3), (31, .ifCond .ne 5, 3), (34, .iconst 0, 1), (35, .ireturn, 1), (36, .aload_n 0, 1), (37, .iconst 3, 1), (38, .iload_n 1, 1), (39, .aload_n 0, 1), (40, .getfield 456, 3), (43, .iconst 0, 1), (44, .invokevirtual 459, 3), (47, .istore_n 1, 1), (48, .goto (-34), 3), (51, .aload_n 0, 1), (52, .iload_n 1, 1), (53, .putfield 456, 3), (56, .iconst 1, 1), (57, .ireturn, 1)]
set_option maxRecDepth 20000 in
theorem me_X12_readOr : zdecs cX12_readOr md_X12_readOr := by
  unfold zdecs md_X12_readOr
  decide +kernel
def md_X12_readAnd : List (Nat × Instr × Nat) := [(0, .aload_n 0, 1), (1, .invokevirtual 463, 3), (4, .ifCond .ne 5, 3), (7, .iconst 0, 1), (8, .ireturn, 1), (9, .aload_n 0, 1), (10, .getfield 456, 3), (13, .istore_n 1, 1), (14, .aload_n 0, 1), (15, .bipush 12, 2), (17, .invokevirtual 203, 3), (20, .ifCond .eq 31, 3), (23, .aload_n 0, 1), (24, .invokevirtual 82, 3), (27, .aload_n 0, 1), (28, .invokevirtual 463, 3), (31, .ifCond .ne 5, 3), (34, .iconst 0, 1), (35, .ireturn, 1), (36, .aload_n 0, 1), (37, .iconst 2, 1), (38, .iload_n 1, 1), (39, .aload_n 0, 1), (40, .getfield 456, 3), (43, .iconst 0, 1), (44, .invokevirtual 459, 3), (47, .istore_n 1, 1), (48, .goto (-34), 3), (51, .aload_n 0, 1), (52, .iload_n 1, 1), (53, .putfield 456, 3), (56, .iconst 1, 1), (57, .ireturn, 1)]
set_option maxRecDepth 20000 in
theorem me_X12_readAnd : zdecs cX12_readAnd md_X12_readAnd := by
  unfold zdecs md_X12_readAnd
  decide +kernel
def md_X12_readSaid : List (Nat × Instr × Nat) := [(0, .aload_n 0, 1), (1, .bipush 40, 2), (3, .invokevirtual 86, 3), (6, .istore_n 1, 1), (7, .bipush 13, 2), (9, .istore_n 2, 1), (10, .iload_n 2, 1), (11, .bipush 23, 2), (13, .if_icmp .gt 17, 3), (16, .aload_n 0, 1), (17, .iload_n 2, 1), (18, .invokevirtual 203, 3), (21, .ifCond .ne 9, 3), (24, .iinc 2 1, 3), (27, .goto (-17), 3), (30, .iload_n 1, 1), (31, .ifCond .ne 15, 3), (34, .iload_n 2, 1), (35, .bipush 23, 2), (37, .if_icmp .le 9, 3), (40, .aload_n 0, 1), (41, .iconst 1, 1), (42, .invokevirtual 72, 3), (45, .ireturn, 1), (46, .aload_n 0, 1), (47, .getfield 466, 3), (50, .bipush 20, 2), (52, .if_icmp .eq 12, 3), (55, .aload_n 0, 1), (56, .getfield 469, 3), (59, .bipush 8, 2), (61, .if_icmp .ne 9, 3), (64, .aload_n 0, 1), (65, .iconst 4, 1), (66, .invokevirtual 72, 3), (69, .ireturn, 1), (70, .aload_n 0, 1), (71, .dup, 1), (72, .getfield 466, 3), (75, .iconst 1, 1), (76, .iadd, 1), (77, .putfield 466, 3), (80, .aload_n 0, 1), (81, .dup, 1), (82, .getfield 469, 3), (85, .iconst 1, 1), (86, .iadd, 1), (87, .putfield 469, 3), (90, .aload_n 0, 1), (91, .invokevirtual 82, 3), (94, .iconst 1, 1), (95, .istore_n 3, 1), (96, .iload_n 1, 1), (97, .ifCond .eq 11, 3), (100, .aload_n 0, 1), (101, .invokevirtual 472, 3), (104, .istore_n 3, 1), (105, .goto 61, 3), (108, .iload_n 2, 1), (109, .bipush 13, 2), (111, .if_icmp .ne 11, 3), (114, .aload_n 0, 1), (115, .invokevirtual 475, 3), (118, .istore_n 3, 1), (119, .goto 47, 3), (122, .iload_n 2, 1), (123, .bipush 18, 2), (125, .if_icmp .ge 21, 3), (128, .aload_n 0, 1), (129, .aload_n 0, 1), (130, .bipush 50, 2), (132, .iload_n 2, 1), (133, .iadd, 1), (134, .iconst 0, 1), (135, .iconst 0, 1), (136, .iconst 0, 1), (137, .invokevirtual 459, 3), (140, .putfield 456, 3), (143, .goto 23, 3), (146, .iload_n 2, 1), (147, .bipush 20, 2), (149, .if_icmp .ge 11, 3), (152, .aload_n 0, 1), (153, .iload_n 2, 1), (154, .invokevirtual 478, 3), (157, .goto 8, 3), (160, .aload_n 0, 1), (161, .iload_n 2, 1), (162, .invokevirtual 481, 3), (165, .istore_n 3, 1), (166, .aload_n 0, 1), (167, .dup, 1), (168, .getfield 469, 3), (171, .iconst 1, 1), (172, .isub, 1), (173, .putfield 469, 3), (176, .iload_n 3, 1), (177, .ireturn, 1)]
set_option maxRecDepth 20000 in
theorem me_X12_readSaid : zdecs cX12_readSaid md_X12_readSaid := by
  unfold zdecs md_X12_readSaid
  decide +kernel
def md_X12_readNot : List (Nat × Instr × Nat) := [(0, .aload_n 0, 1), (1, .invokevirtual 463, 3), (4, .ifCond .ne 5, 3), (7, .iconst 0, 1), (8, .ireturn, 1), (9, .aload_n 0, 1), (10, .aload_n 0, 1), (11, .iconst 1, 1), (12, .aload_n 0, 1), (13, .getfield 456, 3), (16, .iconst 0, 1), (17, .iconst 0, 1), (18, .invokevirtual 459, 3), (21, .putfield 456, 3), (24, .iconst 1, 1), (25, .ireturn, 1)]
set_option maxRecDepth 20000 in
theorem me_X12_readNot : zdecs cX12_readNot md_X12_readNot := by
  unfold zdecs md_X12_readNot
  decide +kernel
def md_X12_readBracket : List (Nat × Instr × Nat) := [(0, .aload_n 0, 1), (1, .invokevirtual 484, 3), (4, .ifCond .ne 5, 3), (7, .iconst 0, 1), (8, .ireturn, 1), (9, .aload_n 0, 1), (10, .bipush 41, 2), (12, .invokevirtual 86, 3), (15, .ifCond .ne 9, 3), (18, .aload_n 0, 1), (19, .iconst 1, 1), (20, .invokevirtual 72, 3), (23, .ireturn, 1), (24, .aload_n 0, 1), (25, .invokevirtual 82, 3), (28, .iconst 1, 1), (29, .ireturn, 1)]
set_option maxRecDepth 20000 in
theorem me_X12_readBracket : zdecs cX12_readBracket md_X12_readBracket := by
  unfold zdecs md_X12_readBracket
  decide +kernel
def md_X12_readOf : List (Nat × Instr × Nat) := [(0, .aload_n 0, 1), (1, .iload_n 1, 1), (2, .invokevirtual 487, 3), (5, .ifCond .ne 5, 3), (8, .iconst 0, 1), (9, .ireturn, 1), (10, .aload_n 0, 1), (11, .aload_n 0, 1), (12, .bipush 50, 2), (14, .iload_n 1, 1), (15, .iadd, 1), (16, .aload_n 0, 1), (17, .getfield 79, 3), (20, .iconst 0, 1), (21, .iconst 0, 1), (22, .invokevirtual 459, 3), (25, .putfield 456, 3), (28, .iconst 1, 1), (29, .ireturn, 1)]
set_option maxRecDepth 20000 in
theorem me_X12_readOf : zdecs cX12_readOf md_X12_readOf := by
  unfold zdecs md_X12_readOf
  decide +kernel
def md_X12_readCompare : List (Nat × Instr × Nat) := [(0, .aload_n 0, 1), (1, .bipush 60, 2), (3, .invokevirtual 86, 3), (6, .ifCond .ne 27, 3), (9, .aload_n 0, 1), (10, .bipush 61, 2), (12, .invokevirtual 86, 3), (15, .ifCond .ne 18, 3), (18, .aload_n 0, 1), (19, .bipush 62, 2), (21, .invokevirtual 86, 3), (24, .ifCond .ne 9, 3), (27, .aload_n 0, 1), (28, .iconst 1, 1), (29, .invokevirtual 72, 3), (32, .ireturn, 1), (33, .aload_n 0, 1), (34, .getfield 40, 3), (37, .istore_n 2, 1), (38, .aload_n 0, 1), (39, .invokevirtual 82, 3), (42, .aload_n 0, 1), (43, .iconst 0, 1), (44, .sipush 999, 3), (47, .invokevirtual 190, 3), (50, .ifCond .ne 5, 3), (53, .iconst 0, 1), (54, .ireturn, 1), (55, .aload_n 0, 1), (56, .aload_n 0, 1), (57, .bipush 50, 2), (59, .iload_n 1, 1), (60, .iadd, 1), (61, .iconst 0, 1), (62, .aload_n 0, 1), (63, .getfield 79, 3), (66, .iload_n 2, 1), (67, .invokevirtual 459, 3), (70, .putfield 456, 3), (73, .iconst 1, 1), (74, .ireturn, 1)]
set_option maxRecDepth 20000 in
theorem me_X12_readCompare : zdecs cX12_readCompare md_X12_readCompare := by
  unfold zdecs md_X12_readCompare
  decide +kernel
def md_X12_sentence : List (Nat × Instr × Nat) := [(0, .aload_n 0, 1), (1, .sipush 200, 3), (4, .invokevirtual 218, 3), (7, .aload_n 0, 1), (8, .iconst 0, 1), (9, .putfield 450, 3), (12, .aload_n 0, 1), (13, .iconst 0, 1), (14, .putfield 466, 3), (17, .aload_n 0, 1), (18, .iconst 0, 1), (19, .putfield 469, 3), (22, .aload_n 0, 1), (23, .invokevirtual 484, 3), (26, .ifCond .ne 10, 3), (29, .iconst (-1), 1), (30, .aload_n 0, 1), (31, .getfield 69, 3), (34, .isub, 1), (35, .ireturn, 1), (36, .aload_n 0, 1), (37, .getfield 30, 3), (40, .ifCond .eq 16, 3), (43, .aload_n 0, 1), (44, .iconst 1, 1), (45, .invokevirtual 72, 3), (48, .pop, 1), (49, .iconst (-1), 1), (50, .aload_n 0, 1), (51, .getfield 69, 3), (54, .isub, 1), (55, .ireturn, 1), (56, .aload_n 0, 1), (57, .getfield 98, 3), (60, .bipush 112, 2), (62, .iconst 1, 1), (63, .iastore, 1), (64, .aload_n 0, 1), (65, .getfield 98, 3), (68, .bipush 113, 2), (70, .aload_n 0, 1), (71, .getfield 456, 3), (74, .iastore, 1), (75, .iconst 0, 1), (76, .istore_n 1, 1), (77, .iload_n 1, 1), (78, .sipush 240, 3), (81, .if_icmp .ge 24, 3), (84, .aload_n 0, 1), (85, .getfield 98, 3), (88, .bipush 114, 2), (90, .iload_n 1, 1), (91, .iadd, 1), (92, .aload_n 0, 1), (93, .getfield 169, 3), (96, .iload_n 1, 1), (97, .iaload, 1), (98, .iastore, 1), (99, .iinc 1 1, 3), (102, .goto (-25), 3), (105, .aload_n 0, 1), (106, .getfield 466, 3), (109, .ireturn, 1)]
set_option maxRecDepth 20000 in
theorem me_X12_sentence : zdecs cX12_sentence md_X12_sentence := by
  unfold zdecs md_X12_sentence
  decide +kernel
def md_X12_holds : List (Nat × Instr × Nat) := [(0, .bipush 114, 2), (2, .iconst 4, 1), (3, .iload_n 1, 1), (4, .imul, 1), (5, .iadd, 1), (6, .istore_n 3, 1), (7, .aload_n 0, 1), (8, .getfield 98, 3), (11, .iload_n 3, 1), (12, .iconst 1, 1), (13, .iadd, 1), (14, .iaload, 1), (15, .istore 4, 2), (17, .aload_n 0, 1), (18, .getfield 98, 3), (21, .iload_n 3, 1), (22, .iconst 2, 1), (23, .iadd, 1), (24, .iaload, 1), (25, .istore 5, 2), (27, .aload_n 0, 1), (28, .getfield 98, 3), (31, .iload_n 3, 1), (32, .iaload, 1), (33, .lookupswitch 241 #[(1, 83), (2, 99), (3, 125), (64, 151), (65, 157), (66, 176), (67, 195), (68, 201), (69, 221)], 83), (116, .aload_n 0, 1), (117, .iload 4, 2), (119, .iload_n 2, 1), (120, .invokevirtual 490, 3), (123, .ifCond .ne 7, 3), (126, .iconst 1, 1), (127, .goto 4, 3), (130, .iconst 0, 1), (131, .ireturn, 1), (132, .aload_n 0, 1), (133, .iload 4, 2), (135, .iload_n 2, 1), (136, .invokevirtual 490, 3), (139, .ifCond .eq 17, 3), (142, .aload_n 0, 1), (143, .iload 5, 2), (145, .iload_n 2, 1), (146, .invokevirtual 490, 3), (149, .ifCond .eq 7, 3), (152, .iconst 1, 1), (153, .goto 4, 3), (156, .iconst 0, 1), (157, .ireturn, 1), (158, .aload_n 0, 1), (159, .iload 4, 2), (161, .iload_n 2, 1), (162, .invokevirtual 490, 3), (165, .ifCond .ne 13, 3), (168, .aload_n 0, 1), (169, .iload 5, 2), (171, .iload_n 2, 1), (172, .invokevirtual 490, 3), (175, .ifCond .eq 7, 3), (178, .iconst 1, 1), (179, .goto 4, 3), (182, .iconst 0, 1), (183, .ireturn, 1), (184, .aload_n 0, 1), (185, .iload_n 2, 1), (186, .invokevirtual 246, 3), (189, .ireturn, 1), (190, .aload_n 0, 1), (191, .getfield 98, 3), (194, .bipush 64, 2), (196, .iload_n 2, 1), (197, .iadd, 1), (198, .iaload, 1), (199, .iconst 2, 1), (200, .if_icmp .ne 7, 3), (203, .iconst 1, 1), (204, .goto 4, 3), (207, .iconst 0, 1), (208, .ireturn, 1), (209, .aload_n 0, 1), (210, .getfield 98, 3), (213, .bipush 64, 2), (215, .iload_n 2, 1), (216, .iadd, 1), (217, .iaload, 1), (218, .iconst 3, 1), (219, .if_icmp .ne 7, 3), (222, .iconst 1, 1), (223, .goto 4, 3), (226, .iconst 0, 1), (227, .ireturn, 1), (228, .aload_n 0, 1), (229, .iload_n 2, 1), (230, .invokevirtual 270, 3), (233, .ireturn, 1), (234, .aload_n 0, 1), (235, .getfield 98, 3), (238, .bipush 72, 2), (240, .iload_n 2, 1), (241, .iadd, 1), (242, .iaload, 1), (243, .iload 4, 2), (245, .if_icmp .ne 7, 3), (248, .iconst 1, 1), (249, .goto 4, 3), (252, .iconst 0, 1), (253, .ireturn, 1), (254, .aload_n 0, 1), (255, .getfield 98, 3), (258, .bipush 48, 2), (260, .iload_n 2, 1), (261, .iadd, 1), (262, .iaload, 1), (263, .iload 4, 2), (265, .if_icmp .ne 7, 3), (268, .iconst 1, 1), (269, .goto 4, 3), (272, .iconst 0, 1), (273, .ireturn, 1), (274, .aload_n 0, 1), (275, .getfield 98, 3), (278, .iload_n 3, 1), (279, .iaload, 1), (280, .bipush 50, 2), (282, .isub, 1), (283, .istore 6, 2), (285, .iload 6, 2), (287, .bipush 20, 2), (289, .if_icmp .ne 15, 3), (292, .aload_n 0, 1), (293, .getfield 98, 3), (296, .bipush 80, 2), (298, .iload_n 2, 1), (299, .iadd, 1), (300, .iaload, 1), (301, .goto 42, 3), (304, .iload 6, 2), (306, .bipush 21, 2), (308, .if_icmp .ne 15, 3), (311, .aload_n 0, 1), (312, .getfield 98, 3), (315, .bipush 96, 2), (317, .iload_n 2, 1), (318, .iadd, 1), (319, .iaload, 1), (320, .goto 23, 3), (323, .iload 6, 2), (325, .bipush 22, 2), (327, .if_icmp .ne 15, 3), (330, .aload_n 0, 1), (331, .getfield 98, 3), (334, .bipush 104, 2), (336, .iload_n 2, 1), (337, .iadd, 1), (338, .iaload, 1), (339, .goto 4, 3), (342, .iload_n 2, 1), (343, .istore 7, 2), (345, .aload_n 0, 1), (346, .getfield 98, 3), (349, .iload_n 3, 1), (350, .iconst 3, 1), (351, .iadd, 1), (352, .iaload, 1), (353, .bipush 60, 2), (355, .if_icmp .ne 18, 3), (358, .iload 7, 2), (360, .iload 5, 2), (362, .if_icmp .ge 7, 3), (365, .iconst 1, 1), (366, .goto 47, 3), (369, .iconst 0, 1), (370, .goto 43, 3), (373, .aload_n 0, 1), (374, .getfield 98, 3), (377, .iload_n 3, 1), (378, .iconst 3, 1), (379, .iadd, 1), (380, .iaload, 1), (381, .bipush 61, 2), (383, .if_icmp .ne 18, 3), (386, .iload 7, 2), (388, .iload 5, 2), (390, .if_icmp .ne 7, 3), (393, .iconst 1, 1), (394, .goto 19, 3), (397, .iconst 0, 1), (398, .goto 15, 3), (401, .iload 7, 2), (403, .iload 5, 2), (405, .if_icmp .le 7, 3), (408, .iconst 1, 1), (409, .goto 4, 3), (412, .iconst 0, 1), (413, .ireturn, 1)]
set_option maxRecDepth 20000 in
theorem me_X12_holds : zdecs cX12_holds md_X12_holds := by
  unfold zdecs md_X12_holds
  decide +kernel
def md_X12_said : List (Nat × Instr × Nat) := [(0, .aload_n 0, 1), (1, .iconst 0, 1), (2, .putfield 1, 3), (5, .aload_n 0, 1), (6, .getfield 98, 3), (9, .bipush 112, 2), (11, .iaload, 1), (12, .ifCond .ne 5, 3), (15, .iconst (-1), 1), (16, .ireturn, 1), (17, .iconst 0, 1), (18, .istore_n 2, 1), (19, .iconst 0, 1), (20, .istore_n 3, 1), (21, .iload_n 3, 1), (22, .aload_n 0, 1), (23, .getfield 98, 3), (26, .iconst 2, 1), (27, .iaload, 1), (28, .if_icmp .ge 37, 3), (31, .aload_n 0, 1), (32, .aload_n 0, 1), (33, .getfield 98, 3), (36, .bipush 113, 2), (38, .iaload, 1), (39, .iload_n 3, 1), (40, .invokevirtual 490, 3), (43, .ifCond .ne 6, 3), (46, .goto 13, 3), (49, .iload_n 2, 1), (50, .iload_n 1, 1), (51, .if_icmp .ne 5, 3), (54, .iload_n 3, 1), (55, .ireturn, 1), (56, .iinc 2 1, 3), (59, .iinc 3 1, 3), (62, .goto (-41), 3), (65, .iload_n 1, 1), (66, .iconst (-1), 1), (67, .if_icmp .ne 7, 3), (70, .iload_n 2, 1), (71, .goto 4, 3), (74, .iconst (-1), 1), (75, .ireturn, 1)]
set_option maxRecDepth 20000 in
theorem me_X12_said : zdecs cX12_said md_X12_said := by
  unfold zdecs md_X12_said
  decide +kernel
def md_X12_image : List (Nat × Instr × Nat) := [(0, .aload_n 0, 1), (1, .iconst 0, 1), (2, .putfield 1, 3), (5, .iload_n 1, 1), (6, .iconst 0, 1), (7, .iconst 1, 1), (8, .invokestatic 75, 3), (11, .ifCond .ne 5, 3), (14, .iconst 0, 1), (15, .ireturn, 1), (16, .iconst 0, 1), (17, .istore_n 2, 1), (18, .iload_n 2, 1), (19, .sipush 354, 3), (22, .if_icmp .ge 27, 3), (25, .aload_n 0, 1), (26, .getfield 104, 3), (29, .sipush 354, 3), (32, .iload_n 1, 1), (33, .imul, 1), (34, .iload_n 2, 1), (35, .iadd, 1), (36, .aload_n 0, 1), (37, .getfield 98, 3), (40, .iload_n 2, 1), (41, .iaload, 1), (42, .iastore, 1), (43, .iinc 2 1, 3), (46, .goto (-28), 3), (49, .iconst 0, 1), (50, .istore_n 2, 1), (51, .iload_n 2, 1), (52, .bipush 19, 2), (54, .if_icmp .ge 26, 3), (57, .aload_n 0, 1), (58, .getfield 126, 3), (61, .bipush 19, 2), (63, .iload_n 1, 1), (64, .imul, 1), (65, .iload_n 2, 1), (66, .iadd, 1), (67, .aload_n 0, 1), (68, .getfield 119, 3), (71, .iload_n 2, 1), (72, .laload, 1), (73, .lastore, 1), (74, .iinc 2 1, 3), (77, .goto (-26), 3), (80, .aload_n 0, 1), (81, .getfield 129, 3), (84, .iload_n 1, 1), (85, .iconst 1, 1), (86, .bastore, 1), (87, .iconst 1, 1), (88, .ireturn, 1)]
set_option maxRecDepth 20000 in
theorem me_X12_image : zdecs cX12_image md_X12_image := by
  unfold zdecs md_X12_image
  decide +kernel
def md_X12_restore : List (Nat × Instr × Nat) := [(0, .aload_n 0, 1), (1, .iconst 0, 1), (2, .putfield 1, 3), (5, .iload_n 1, 1), (6, .iconst 0, 1), (7, .iconst 1, 1), (8, .invokestatic 75, 3), (11, .ifCond .eq 12, 3), (14, .aload_n 0, 1), (15, .getfield 129, 3), (18, .iload_n 1, 1), (19, .baload, 1), (20, .ifCond .ne 5, 3), (23, .iconst 0, 1), (24, .ireturn, 1), (25, .iconst 0, 1), (26, .istore_n 2, 1), (27, .iload_n 2, 1), (28, .sipush 354, 3), (31, .if_icmp .ge 27, 3), (34, .aload_n 0, 1), (35, .getfield 98, 3), (38, .iload_n 2, 1), (39, .aload_n 0, 1), (40, .getfield 104, 3), (43, .sipush 354, 3), (46, .iload_n 1, 1), (47, .imul, 1), (48, .iload_n 2, 1), (49, .iadd, 1), (50, .iaload, 1), (51, .iastore, 1), (52, .iinc 2 1, 3), (55, .goto (-28), 3), (58, .iconst 0, 1), (59, .istore_n 2, 1), (60, .iload_n 2, 1), (61, .bipush 19, 2), (63, .if_icmp .ge 26, 3), (66, .aload_n 0, 1), (67, .getfield 119, 3), (70, .iload_n 2, 1), (71, .aload_n 0, 1), (72, .getfield 126, 3), (75, .bipush 19, 2), (77, .iload_n 1, 1), (78, .imul, 1), (79, .iload_n 2, 1), (80, .iadd, 1), (81, .laload, 1), (82, .lastore, 1), (83, .iinc 2 1, 3), (86, .goto (-26), 3), (89, .aload_n 0, 1), (90, .iconst 0, 1), (91, .putfield 227, 3), (94, .iconst 1, 1), (95, .ireturn, 1)]
set_option maxRecDepth 20000 in
theorem me_X12_restore : zdecs cX12_restore md_X12_restore := by
  unfold zdecs md_X12_restore
  decide +kernel
def md_X12_count : List (Nat × Instr × Nat) := [(0, .aload_n 0, 1), (1, .iconst 0, 1), (2, .putfield 1, 3), (5, .iload_n 1, 1), (6, .tableswitch 89 0 6 #[42, 49, 56, 63, 70, 77, 84], 42), (48, .aload_n 0, 1), (49, .getfield 98, 3), (52, .iconst 0, 1), (53, .iaload, 1), (54, .ireturn, 1), (55, .aload_n 0, 1), (56, .getfield 98, 3), (59, .iconst 1, 1), (60, .iaload, 1), (61, .ireturn, 1), (62, .aload_n 0, 1), (63, .getfield 98, 3), (66, .iconst 2, 1), (67, .iaload, 1), (68, .ireturn, 1), (69, .aload_n 0, 1), (70, .getfield 98, 3), (73, .iconst 3, 1), (74, .iaload, 1), (75, .ireturn, 1), (76, .aload_n 0, 1), (77, .getfield 98, 3), (80, .iconst 4, 1), (81, .iaload, 1), (82, .ireturn, 1), (83, .aload_n 0, 1), (84, .getfield 98, 3), (87, .iconst 5, 1), (88, .iaload, 1), (89, .ireturn, 1), (90, .aload_n 0, 1), (91, .getfield 11, 3), (94, .ireturn, 1), (95, .iconst (-1), 1), (96, .ireturn, 1)]
set_option maxRecDepth 20000 in
theorem me_X12_count : zdecs cX12_count md_X12_count := by
  unfold zdecs md_X12_count
  decide +kernel
