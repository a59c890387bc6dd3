def md_X0_init : List (Nat × Instr × Nat) := [(0, .aload_n 0, 1), (1, .invokespecial 3, 3), (4, .aload_n 0, 1), (5, .bipush 40, 2), (7, .newarray .int, 2), (9, .putfield 11, 3), (12, .aload_n 0, 1), (13, .bipush 40, 2), (15, .newarray .int, 2), (17, .putfield 15, 3), (20, .return_, 1)]
set_option maxRecDepth 20000 in
theorem me_X0_init : zdecs cX0_init md_X0_init := by
  unfold zdecs md_X0_init
  decide +kernel
def md_X0_readLines : List (Nat × Instr × Nat) := [(0, .aload_n 0, 1), (1, .iconst 0, 1), (2, .putfield 18, 3), (5, .aload_n 1, 1), (6, .sipush 400, 3), (9, .invokevirtual 22, 3), (12, .iconst 0, 1), (13, .istore_n 3, 1), (14, .iload_n 3, 1), (15, .sipush 400, 3), (18, .if_icmp .gt 38, 3), (21, .aload_n 1, 1), (22, .invokevirtual 28, 3), (25, .ifCond .eq 5, 3), (28, .iconst 1, 1), (29, .ireturn, 1), (30, .aload_n 0, 1), (31, .aload_n 1, 1), (32, .aload_n 2, 1), (33, .invokevirtual 32, 3), (36, .ifCond .eq 12, 3), (39, .aload_n 1, 1), (40, .bipush 59, 2), (42, .invokevirtual 36, 3), (45, .ifCond .ne 5, 3), (48, .iconst 0, 1), (49, .ireturn, 1), (50, .iinc 3 1, 3), (53, .goto (-39), 3), (56, .iconst 0, 1), (57, .ireturn, 1)]
set_option maxRecDepth 20000 in
theorem me_X0_readLines : zdecs cX0_readLines md_X0_readLines := by
  unfold zdecs md_X0_readLines
  decide +kernel
def md_X0_readLine : List (Nat × Instr × Nat) := [(0, .aload_n 1, 1), (1, .getfield 40, 3), (4, .istore_n 3, 1), (5, .iload_n 3, 1), (6, .bipush 6, 2), (8, .if_icmp .lt 9, 3), (11, .iload_n 3, 1), (12, .bipush 10, 2), (14, .if_icmp .le 9, 3), (17, .aload_n 1, 1), (18, .iconst 1, 1), (19, .invokevirtual 43, 3), (22, .ireturn, 1), (23, .aload_n 0, 1), (24, .getfield 18, 3), (27, .bipush 40, 2), (29, .if_icmp .lt 9, 3), (32, .aload_n 1, 1), (33, .iconst 4, 1), (34, .invokevirtual 43, 3), (37, .ireturn, 1), (38, .aload_n 1, 1), (39, .invokevirtual 46, 3), (42, .iload_n 3, 1), (43, .bipush 10, 2), (45, .if_icmp .ne 15, 3), (48, .aload_n 1, 1), (49, .iconst 1, 1), (50, .bipush 60, 2), (52, .invokevirtual 49, 3), (55, .istore 4, 2), (57, .goto 37, 3), (60, .iload_n 3, 1), (61, .bipush 9, 2), (63, .if_icmp .ne 18, 3), (66, .aload_n 2, 1), (67, .aload_n 1, 1), (68, .iconst 0, 1), (69, .aload_n 2, 1), (70, .getfield 55, 3), (73, .invokevirtual 58, 3), (76, .istore 4, 2), (78, .goto 16, 3), (81, .aload_n 2, 1), (82, .aload_n 1, 1), (83, .bipush 11, 2), (85, .aload_n 2, 1), (86, .getfield 62, 3), (89, .invokevirtual 58, 3), (92, .istore 4, 2), (94, .iload 4, 2), (96, .iconst (-1), 1), (97, .if_icmp .ne 5, 3), (100, .iconst 0, 1), (101, .ireturn, 1), (102, .aload_n 0, 1), (103, .getfield 11, 3), (106, .aload_n 0, 1), (107, .getfield 18, 3), (110, .iload_n 3, 1), (111, .iastore, 1), (112, .aload_n 0, 1), (113, .getfield 15, 3), (116, .aload_n 0, 1), (117, .getfield 18, 3), (120, .iload 4, 2), (122, .iastore, 1), (123, .aload_n 0, 1), (124, .dup, 1), (125, .getfield 18, 3), (128, .iconst 1, 1), (129, .iadd, 1), (130, .putfield 18, 3), (133, .iconst 1, 1), (134, .ireturn, 1)]
set_option maxRecDepth 20000 in
theorem me_X0_readLine : zdecs cX0_readLine md_X0_readLine := by
  unfold zdecs md_X0_readLine
  decide +kernel
def md_X0_live : List (Nat × Instr × Nat) := [(0, .aload_n 0, 1), (1, .iconst 0, 1), (2, .putfield 65, 3), (5, .aload_n 0, 1), (6, .iconst 0, 1), (7, .putfield 68, 3), (10, .aload_n 0, 1), (11, .getfield 68, 3), (14, .aload_n 0, 1), (15, .getfield 18, 3), (18, .if_icmp .ge 61, 3), (21, .aload_n 0, 1), (22, .getfield 68, 3), (25, .bipush 40, 2), (27, .if_icmp .ge 52, 3), (30, .aload_n 0, 1), (31, .aload_n 1, 1), (32, .aload_n 0, 1), (33, .getfield 11, 3), (36, .aload_n 0, 1), (37, .getfield 68, 3), (40, .iaload, 1), (41, .aload_n 0, 1), (42, .getfield 15, 3), (45, .aload_n 0, 1), (46, .getfield 68, 3), (49, .iaload, 1), (50, .invokestatic 71, 3), (53, .putfield 65, 3), (56, .aload_n 0, 1), (57, .getfield 65, 3), (60, .ifCond .eq 6, 3), (63, .goto 16, 3), (66, .aload_n 0, 1), (67, .dup, 1), (68, .getfield 68, 3), (71, .iconst 1, 1), (72, .iadd, 1), (73, .putfield 68, 3), (76, .goto (-66), 3), (79, .aload_n 0, 1), (80, .iconst 1, 1), (81, .putfield 75, 3), (84, .aload_n 0, 1), (85, .aload_n 1, 1), (86, .invokevirtual 79, 3), (89, .putfield 85, 3), (92, .aload_n 0, 1), (93, .aload_n 1, 1), (94, .iconst 2, 1), (95, .invokevirtual 88, 3), (98, .putfield 92, 3), (101, .return_, 1)]
set_option maxRecDepth 20000 in
theorem me_X0_live : zdecs cX0_live md_X0_live := by
  unfold zdecs md_X0_live
  decide +kernel
def md_X0_liveLine : List (Nat × Instr × Nat) := [(0, .iload_n 1, 1), (1, .tableswitch 70 6 9 #[31, 37, 48, 59], 31), (32, .aload_n 0, 1), (33, .iload_n 2, 1), (34, .invokevirtual 95, 3), (37, .ireturn, 1), (38, .bipush 10, 2), (40, .aload_n 0, 1), (41, .iload_n 2, 1), (42, .invokevirtual 98, 3), (45, .invokestatic 101, 3), (48, .ireturn, 1), (49, .bipush 20, 2), (51, .aload_n 0, 1), (52, .iload_n 2, 1), (53, .invokevirtual 104, 3), (56, .invokestatic 101, 3), (59, .ireturn, 1), (60, .bipush 30, 2), (62, .aload_n 0, 1), (63, .iload_n 2, 1), (64, .invokevirtual 107, 3), (67, .invokestatic 101, 3), (70, .ireturn, 1), (71, .aload_n 0, 1), (72, .invokevirtual 79, 3), (75, .iload_n 2, 1), (76, .iadd, 1), (77, .sipush 1000, 3), (80, .if_icmp .le 6, 3), (83, .bipush 41, 2), (85, .ireturn, 1), (86, .aload_n 0, 1), (87, .iload_n 2, 1), (88, .invokevirtual 110, 3), (91, .iconst 0, 1), (92, .ireturn, 1)]
set_option maxRecDepth 20000 in
theorem me_X0_liveLine : zdecs cX0_liveLine md_X0_liveLine := by
  unfold zdecs md_X0_liveLine
  decide +kernel
def md_X0_moreThan : List (Nat × Instr × Nat) := [(0, .iload_n 1, 1), (1, .ifCond .ne 7, 3), (4, .iconst 0, 1), (5, .goto 6, 3), (8, .iload_n 0, 1), (9, .iload_n 1, 1), (10, .iadd, 1), (11, .ireturn, 1)]
set_option maxRecDepth 20000 in
theorem me_X0_moreThan : zdecs cX0_moreThan md_X0_moreThan := by
  unfold zdecs md_X0_moreThan
  decide +kernel
def md_X0_tell : List (Nat × Instr × Nat) := [(0, .aload_n 0, 1), (1, .getfield 75, 3), (4, .ifCond .ne 5, 3), (7, .iconst (-1), 1), (8, .ireturn, 1), (9, .iload_n 1, 1), (10, .tableswitch 50 0 3 #[30, 35, 40, 45], 30), (40, .aload_n 0, 1), (41, .getfield 65, 3), (44, .ireturn, 1), (45, .aload_n 0, 1), (46, .getfield 68, 3), (49, .ireturn, 1), (50, .aload_n 0, 1), (51, .getfield 85, 3), (54, .ireturn, 1), (55, .aload_n 0, 1), (56, .getfield 92, 3), (59, .ireturn, 1), (60, .iconst (-1), 1), (61, .ireturn, 1)]
set_option maxRecDepth 20000 in
theorem me_X0_tell : zdecs cX0_tell md_X0_tell := by
  unfold zdecs md_X0_tell
  decide +kernel
def md_X1_init : List (Nat × Instr × Nat) := [(0, .aload_n 0, 1), (1, .invokespecial 3, 3), (4, .return_, 1)]
set_option maxRecDepth 20000 in
theorem me_X1_init : zdecs cX1_init md_X1_init := by
  unfold zdecs md_X1_init
  decide +kernel
def md_X1_liveMinutes : List (Nat × Instr × Nat) := [(0, .aload_n 0, 1), (1, .iload_n 3, 1), (2, .putfield 9, 3), (5, .iconst 0, 1), (6, .istore 4, 2), (8, .iload 4, 2), (10, .iload_n 2, 1), (11, .if_icmp .ge 29, 3), (14, .aload_n 1, 1), (15, .invokevirtual 15, 3), (18, .sipush 1000, 3), (21, .if_icmp .ge 19, 3), (24, .aload_n 0, 1), (25, .aload_n 1, 1), (26, .invokevirtual 21, 3), (29, .aload_n 1, 1), (30, .iconst 1, 1), (31, .invokevirtual 25, 3), (34, .iinc 4 1, 3), (37, .goto (-29), 3), (40, .iload 4, 2), (42, .ireturn, 1)]
set_option maxRecDepth 20000 in
theorem me_X1_liveMinutes : zdecs cX1_liveMinutes md_X1_liveMinutes := by
  unfold zdecs md_X1_liveMinutes
  decide +kernel
def md_X1_actByDraw : List (Nat × Instr × Nat) := [(0, .aload_n 1, 1), (1, .getfield 29, 3), (4, .getfield 33, 3), (7, .istore_n 2, 1), (8, .aload_n 1, 1), (9, .getfield 29, 3), (12, .getfield 38, 3), (15, .istore_n 3, 1), (16, .aload_n 0, 1), (17, .bipush 8, 2), (19, .invokevirtual 41, 3), (22, .istore 4, 2), (24, .iload 4, 2), (26, .iconst 2, 1), (27, .if_icmp .gt 20, 3), (30, .iload_n 2, 1), (31, .ifCond .le 16, 3), (34, .aload_n 1, 1), (35, .aload_n 0, 1), (36, .iload_n 2, 1), (37, .invokevirtual 41, 3), (40, .invokevirtual 45, 3), (43, .pop, 1), (44, .goto 77, 3), (47, .iload 4, 2), (49, .iconst 3, 1), (50, .if_icmp .ne 20, 3), (53, .iload_n 2, 1), (54, .ifCond .le 16, 3), (57, .aload_n 1, 1), (58, .aload_n 0, 1), (59, .iload_n 2, 1), (60, .invokevirtual 41, 3), (63, .invokevirtual 48, 3), (66, .pop, 1), (67, .goto 54, 3), (70, .iload 4, 2), (72, .iconst 4, 1), (73, .if_icmp .ne 20, 3), (76, .iload_n 3, 1), (77, .ifCond .le 16, 3), (80, .aload_n 1, 1), (81, .aload_n 0, 1), (82, .iload_n 3, 1), (83, .invokevirtual 41, 3), (86, .invokevirtual 51, 3), (89, .pop, 1), (90, .goto 31, 3), (93, .iload 4, 2), (95, .iconst 5, 1), (96, .if_icmp .ne 25, 3), (99, .aload_n 0, 1), (100, .iconst 4, 1), (101, .invokevirtual 41, 3), (104, .ifCond .ne 17, 3), (107, .iload_n 2, 1), (108, .ifCond .le 13, 3), (111, .aload_n 1, 1), (112, .aload_n 0, 1), (113, .iload_n 2, 1), (114, .invokevirtual 41, 3), (117, .invokevirtual 54, 3), (120, .pop, 1), (121, .return_, 1)]
set_option maxRecDepth 20000 in
theorem me_X1_actByDraw : zdecs cX1_actByDraw md_X1_actByDraw := by
  unfold zdecs md_X1_actByDraw
  decide +kernel
def md_X1_draw : List (Nat × Instr × Nat) := [(0, .aload_n 0, 1), (1, .aload_n 0, 1), (2, .getfield 9, 3), (5, .ldc 57, 2), (7, .imul, 1), (8, .sipush 12345, 3), (11, .iadd, 1), (12, .putfield 9, 3), (15, .iload_n 1, 1), (16, .iconst 1, 1), (17, .if_icmp .ge 7, 3), (20, .iconst 0, 1), (21, .goto 12, 3), (24, .aload_n 0, 1), (25, .getfield 9, 3), (28, .bipush 8, 2), (30, .iushr, 1), (31, .iload_n 1, 1), (32, .irem, 1), (33, .ireturn, 1)]
set_option maxRecDepth 20000 in
theorem me_X1_draw : zdecs cX1_draw md_X1_draw := by
  unfold zdecs md_X1_draw
  decide +kernel
def md_X2_init : List (Nat × Instr × Nat) := [(0, .aload_n 0, 1), (1, .invokespecial 1, 3), (4, .aload_n 0, 1), (5, .new 7, 3), (8, .dup, 1), (9, .invokespecial 9, 3), (12, .putfield 10, 3), (15, .aload_n 0, 1), (16, .new 16, 3), (19, .dup, 1), (20, .invokespecial 18, 3), (23, .putfield 19, 3), (26, .aload_n 0, 1), (27, .bipush 62, 2), (29, .newarray .int, 2), (31, .putfield 25, 3), (34, .return_, 1)]
set_option maxRecDepth 20000 in
theorem me_X2_init : zdecs cX2_init md_X2_init := by
  unfold zdecs md_X2_init
  decide +kernel
def md_X2_keep : List (Nat × Instr × Nat) := [(0, .aload_n 0, 1), (1, .getfield 10, 3), (4, .aload_n 1, 1), (5, .invokevirtual 29, 3), (8, .aload_n 0, 1), (9, .getfield 19, 3), (12, .aload_n 3, 1), (13, .invokevirtual 33, 3), (16, .aload_n 2, 1), (17, .aload_n 0, 1), (18, .getfield 25, 3), (21, .invokevirtual 36, 3), (24, .aload_n 0, 1), (25, .iconst 1, 1), (26, .putfield 40, 3), (29, .return_, 1)]
set_option maxRecDepth 20000 in
theorem me_X2_keep : zdecs cX2_keep md_X2_keep := by
  unfold zdecs md_X2_keep
  decide +kernel
def md_X2_giveBack : List (Nat × Instr × Nat) := [(0, .aload_n 1, 1), (1, .aload_n 0, 1), (2, .getfield 10, 3), (5, .invokevirtual 29, 3), (8, .aload_n 3, 1), (9, .aload_n 0, 1), (10, .getfield 19, 3), (13, .invokevirtual 33, 3), (16, .aload_n 2, 1), (17, .aload_n 0, 1), (18, .getfield 25, 3), (21, .invokevirtual 44, 3), (24, .return_, 1)]
set_option maxRecDepth 20000 in
theorem me_X2_giveBack : zdecs cX2_giveBack md_X2_giveBack := by
  unfold zdecs md_X2_giveBack
  decide +kernel
def md_X3_init : List (Nat × Instr × Nat) := [(0, .aload_n 0, 1), (1, .invokespecial 5, 3), (4, .aload_n 0, 1), (5, .bipush 62, 2), (7, .newarray .int, 2), (9, .putfield 11, 3), (12, .aload_n 0, 1), (13, .aload_n 1, 1), (14, .putfield 15, 3), (17, .aload_n 0, 1), (18, .invokevirtual 19, 3), (21, .return_, 1)]
set_option maxRecDepth 20000 in
theorem me_X3_init : zdecs cX3_init md_X3_init := by
  unfold zdecs md_X3_init
  decide +kernel
def md_X3_begin : List (Nat × Instr × Nat) := [(0, .iconst 0, 1), (1, .istore_n 1, 1), (2, .iload_n 1, 1), (3, .bipush 62, 2), (5, .if_icmp .ge 32, 3), (8, .aload_n 0, 1), (9, .getfield 11, 3), (12, .iload_n 1, 1), (13, .iload_n 1, 1), (14, .bipush 20, 2), (16, .if_icmp .lt 13, 3), (19, .iload_n 1, 1), (20, .bipush 28, 2), (22, .if_icmp .ge 7, 3), (25, .iconst (-1), 1), (26, .goto 4, 3), (29, .iconst 0, 1), (30, .iastore, 1), (31, .iinc 1 1, 3), (34, .goto (-32), 3), (37, .aload_n 0, 1), (38, .getfield 11, 3), (41, .bipush 61, 2), (43, .aload_n 0, 1), (44, .getfield 15, 3), (47, .getfield 22, 3), (50, .iastore, 1), (51, .return_, 1)]
set_option maxRecDepth 20000 in
theorem me_X3_begin : zdecs cX3_begin md_X3_begin := by
  unfold zdecs md_X3_begin
  decide +kernel
def md_X3_copyFrom : List (Nat × Instr × Nat) := [(0, .aload_n 1, 1), (1, .getfield 11, 3), (4, .iconst 0, 1), (5, .aload_n 0, 1), (6, .getfield 11, 3), (9, .iconst 0, 1), (10, .bipush 62, 2), (12, .invokestatic 28, 3), (15, .return_, 1)]
set_option maxRecDepth 20000 in
theorem me_X3_copyFrom : zdecs cX3_copyFrom md_X3_copyFrom := by
  unfold zdecs md_X3_copyFrom
  decide +kernel
def md_X3_putInto : List (Nat × Instr × Nat) := [(0, .aload_n 0, 1), (1, .getfield 11, 3), (4, .iconst 0, 1), (5, .aload_n 1, 1), (6, .iconst 0, 1), (7, .bipush 62, 2), (9, .aload_n 1, 1), (10, .arraylength, 1), (11, .invokestatic 34, 3), (14, .invokestatic 28, 3), (17, .return_, 1)]
set_option maxRecDepth 20000 in
theorem me_X3_putInto : zdecs cX3_putInto md_X3_putInto := by
  unfold zdecs md_X3_putInto
  decide +kernel
def md_X3_takeFrom : List (Nat × Instr × Nat) := [(0, .aload_n 1, 1), (1, .iconst 0, 1), (2, .aload_n 0, 1), (3, .getfield 11, 3), (6, .iconst 0, 1), (7, .bipush 62, 2), (9, .aload_n 1, 1), (10, .arraylength, 1), (11, .invokestatic 34, 3), (14, .invokestatic 28, 3), (17, .return_, 1)]
set_option maxRecDepth 20000 in
theorem me_X3_takeFrom : zdecs cX3_takeFrom md_X3_takeFrom := by
  unfold zdecs md_X3_takeFrom
  decide +kernel
def md_X3_minute : List (Nat × Instr × Nat) := [(0, .aload_n 0, 1), (1, .getfield 11, 3), (4, .bipush 60, 2), (6, .iaload, 1), (7, .ireturn, 1)]
set_option maxRecDepth 20000 in
theorem me_X3_minute : zdecs cX3_minute md_X3_minute := by
  unfold zdecs md_X3_minute
  decide +kernel
def md_X3_freshLeft : List (Nat × Instr × Nat) := [(0, .aload_n 0, 1), (1, .getfield 11, 3), (4, .bipush 61, 2), (6, .iaload, 1), (7, .ireturn, 1)]
set_option maxRecDepth 20000 in
theorem me_X3_freshLeft : zdecs cX3_freshLeft md_X3_freshLeft := by
  unfold zdecs md_X3_freshLeft
  decide +kernel
def md_X3_hadBy : List (Nat × Instr × Nat) := [(0, .aload_n 0, 1), (1, .getfield 15, 3), (4, .iload_n 1, 1), (5, .invokevirtual 40, 3), (8, .ifCond .eq 14, 3), (11, .aload_n 0, 1), (12, .getfield 11, 3), (15, .iconst 0, 1), (16, .iload_n 1, 1), (17, .iadd, 1), (18, .iaload, 1), (19, .goto 4, 3), (22, .iconst 0, 1), (23, .ireturn, 1)]
set_option maxRecDepth 20000 in
theorem me_X3_hadBy : zdecs cX3_hadBy md_X3_hadBy := by
  unfold zdecs md_X3_hadBy
  decide +kernel
def md_X3_insideOf : List (Nat × Instr × Nat) := [(0, .aload_n 0, 1), (1, .getfield 15, 3), (4, .iload_n 1, 1), (5, .invokevirtual 40, 3), (8, .ifCond .eq 15, 3), (11, .aload_n 0, 1), (12, .getfield 11, 3), (15, .bipush 6, 2), (17, .iload_n 1, 1), (18, .iadd, 1), (19, .iaload, 1), (20, .goto 4, 3), (23, .iconst 0, 1), (24, .ireturn, 1)]
set_option maxRecDepth 20000 in
theorem me_X3_insideOf : zdecs cX3_insideOf md_X3_insideOf := by
  unfold zdecs md_X3_insideOf
  decide +kernel
def md_X3_isOpen : List (Nat × Instr × Nat) := [(0, .aload_n 0, 1), (1, .getfield 15, 3), (4, .iload_n 1, 1), (5, .invokevirtual 40, 3), (8, .ifCond .eq 51, 3), (11, .aload_n 0, 1), (12, .getfield 11, 3), (15, .bipush 6, 2), (17, .iload_n 1, 1), (18, .iadd, 1), (19, .iaload, 1), (20, .invokestatic 44, 3), (23, .aload_n 0, 1), (24, .getfield 15, 3), (27, .getfield 50, 3), (30, .iload_n 1, 1), (31, .iaload, 1), (32, .if_icmp .ge 27, 3), (35, .aload_n 0, 1), (36, .getfield 11, 3), (39, .iconst 0, 1), (40, .iload_n 1, 1), (41, .iadd, 1), (42, .iaload, 1), (43, .aload_n 0, 1), (44, .getfield 15, 3), (47, .getfield 53, 3), (50, .iload_n 1, 1), (51, .iaload, 1), (52, .if_icmp .ge 7, 3), (55, .iconst 1, 1), (56, .goto 4, 3), (59, .iconst 0, 1), (60, .ireturn, 1)]
set_option maxRecDepth 20000 in
theorem me_X3_isOpen : zdecs cX3_isOpen md_X3_isOpen := by
  unfold zdecs md_X3_isOpen
  decide +kernel
def md_X3_openBaths : List (Nat × Instr × Nat) := [(0, .iconst 0, 1), (1, .istore_n 1, 1), (2, .iconst 0, 1), (3, .istore_n 2, 1), (4, .iload_n 2, 1), (5, .aload_n 0, 1), (6, .getfield 15, 3), (9, .getfield 56, 3), (12, .if_icmp .ge 23, 3), (15, .aload_n 0, 1), (16, .iload_n 2, 1), (17, .invokevirtual 59, 3), (20, .ifCond .eq 9, 3), (23, .iload_n 1, 1), (24, .iconst 1, 1), (25, .iload_n 2, 1), (26, .ishl, 1), (27, .ior, 1), (28, .istore_n 1, 1), (29, .iinc 2 1, 3), (32, .goto (-28), 3), (35, .iload_n 1, 1), (36, .ireturn, 1)]
set_option maxRecDepth 20000 in
theorem me_X3_openBaths : zdecs cX3_openBaths md_X3_openBaths := by
  unfold zdecs md_X3_openBaths
  decide +kernel
def md_X3_howIs : List (Nat × Instr × Nat) := [(0, .aload_n 0, 1), (1, .getfield 15, 3), (4, .iload_n 1, 1), (5, .invokevirtual 62, 3), (8, .ifCond .eq 15, 3), (11, .aload_n 0, 1), (12, .getfield 11, 3), (15, .bipush 12, 2), (17, .iload_n 1, 1), (18, .iadd, 1), (19, .iaload, 1), (20, .goto 4, 3), (23, .iconst (-1), 1), (24, .ireturn, 1)]
set_option maxRecDepth 20000 in
theorem me_X3_howIs : zdecs cX3_howIs md_X3_howIs := by
  unfold zdecs md_X3_howIs
  decide +kernel
def md_X3_bathOf : List (Nat × Instr × Nat) := [(0, .aload_n 0, 1), (1, .getfield 15, 3), (4, .iload_n 1, 1), (5, .invokevirtual 62, 3), (8, .ifCond .eq 15, 3), (11, .aload_n 0, 1), (12, .getfield 11, 3), (15, .bipush 20, 2), (17, .iload_n 1, 1), (18, .iadd, 1), (19, .iaload, 1), (20, .goto 4, 3), (23, .iconst (-1), 1), (24, .ireturn, 1)]
set_option maxRecDepth 20000 in
theorem me_X3_bathOf : zdecs cX3_bathOf md_X3_bathOf := by
  unfold zdecs md_X3_bathOf
  decide +kernel
def md_X3_leftOf : List (Nat × Instr × Nat) := [(0, .aload_n 0, 1), (1, .getfield 15, 3), (4, .iload_n 1, 1), (5, .invokevirtual 62, 3), (8, .ifCond .eq 15, 3), (11, .aload_n 0, 1), (12, .getfield 11, 3), (15, .bipush 28, 2), (17, .iload_n 1, 1), (18, .iadd, 1), (19, .iaload, 1), (20, .goto 4, 3), (23, .iconst 0, 1), (24, .ireturn, 1)]
set_option maxRecDepth 20000 in
theorem me_X3_leftOf : zdecs cX3_leftOf md_X3_leftOf := by
  unfold zdecs md_X3_leftOf
  decide +kernel
def md_X3_overOf : List (Nat × Instr × Nat) := [(0, .aload_n 0, 1), (1, .getfield 15, 3), (4, .iload_n 1, 1), (5, .invokevirtual 62, 3), (8, .ifCond .eq 15, 3), (11, .aload_n 0, 1), (12, .getfield 11, 3), (15, .bipush 44, 2), (17, .iload_n 1, 1), (18, .iadd, 1), (19, .iaload, 1), (20, .goto 4, 3), (23, .iconst 0, 1), (24, .ireturn, 1)]
set_option maxRecDepth 20000 in
theorem me_X3_overOf : zdecs cX3_overOf md_X3_overOf := by
  unfold zdecs md_X3_overOf
  decide +kernel
def md_X3_triesOf : List (Nat × Instr × Nat) := [(0, .aload_n 0, 1), (1, .getfield 15, 3), (4, .iload_n 1, 1), (5, .invokevirtual 62, 3), (8, .ifCond .eq 15, 3), (11, .aload_n 0, 1), (12, .getfield 11, 3), (15, .bipush 52, 2), (17, .iload_n 1, 1), (18, .iadd, 1), (19, .iaload, 1), (20, .goto 4, 3), (23, .iconst 0, 1), (24, .ireturn, 1)]
set_option maxRecDepth 20000 in
theorem me_X3_triesOf : zdecs cX3_triesOf md_X3_triesOf := by
  unfold zdecs md_X3_triesOf
  decide +kernel
def md_X3_isHeld : List (Nat × Instr × Nat) := [(0, .aload_n 0, 1), (1, .iload_n 1, 1), (2, .invokevirtual 65, 3), (5, .iconst 1, 1), (6, .if_icmp .ne 19, 3), (9, .aload_n 0, 1), (10, .getfield 11, 3), (13, .bipush 28, 2), (15, .iload_n 1, 1), (16, .iadd, 1), (17, .iaload, 1), (18, .ifCond .ne 7, 3), (21, .iconst 1, 1), (22, .goto 4, 3), (25, .iconst 0, 1), (26, .ireturn, 1)]
set_option maxRecDepth 20000 in
theorem me_X3_isHeld : zdecs cX3_isHeld md_X3_isHeld := by
  unfold zdecs md_X3_isHeld
  decide +kernel
def md_X3_tellSheet : List (Nat × Instr × Nat) := [(0, .iload_n 2, 1), (1, .tableswitch 84 1 5 #[35, 41, 47, 53, 78], 35), (36, .aload_n 0, 1), (37, .iload_n 1, 1), (38, .invokevirtual 65, 3), (41, .ireturn, 1), (42, .aload_n 0, 1), (43, .iload_n 1, 1), (44, .invokevirtual 68, 3), (47, .ireturn, 1), (48, .aload_n 0, 1), (49, .iload_n 1, 1), (50, .invokevirtual 71, 3), (53, .ireturn, 1), (54, .aload_n 0, 1), (55, .getfield 15, 3), (58, .iload_n 1, 1), (59, .invokevirtual 62, 3), (62, .ifCond .eq 15, 3), (65, .aload_n 0, 1), (66, .getfield 11, 3), (69, .bipush 36, 2), (71, .iload_n 1, 1), (72, .iadd, 1), (73, .iaload, 1), (74, .goto 4, 3), (77, .iconst 0, 1), (78, .ireturn, 1), (79, .aload_n 0, 1), (80, .iload_n 1, 1), (81, .invokevirtual 74, 3), (84, .ireturn, 1), (85, .aload_n 0, 1), (86, .iload_n 1, 1), (87, .invokevirtual 77, 3), (90, .ireturn, 1)]
set_option maxRecDepth 20000 in
theorem me_X3_tellSheet : zdecs cX3_tellSheet md_X3_tellSheet := by
  unfold zdecs md_X3_tellSheet
  decide +kernel
def md_X3_allThatAre : List (Nat × Instr × Nat) := [(0, .iconst 0, 1), (1, .istore_n 2, 1), (2, .iconst 0, 1), (3, .istore_n 3, 1), (4, .iload_n 3, 1), (5, .aload_n 0, 1), (6, .getfield 15, 3), (9, .getfield 80, 3), (12, .if_icmp .ge 28, 3), (15, .aload_n 0, 1), (16, .getfield 11, 3), (19, .bipush 12, 2), (21, .iload_n 3, 1), (22, .iadd, 1), (23, .iaload, 1), (24, .iload_n 1, 1), (25, .if_icmp .ne 9, 3), (28, .iload_n 2, 1), (29, .iconst 1, 1), (30, .iload_n 3, 1), (31, .ishl, 1), (32, .ior, 1), (33, .istore_n 2, 1), (34, .iinc 3 1, 3), (37, .goto (-33), 3), (40, .iload_n 2, 1), (41, .ireturn, 1)]
set_option maxRecDepth 20000 in
theorem me_X3_allThatAre : zdecs cX3_allThatAre md_X3_allThatAre := by
  unfold zdecs md_X3_allThatAre
  decide +kernel
def md_X3_allHeld : List (Nat × Instr × Nat) := [(0, .iconst 0, 1), (1, .istore_n 1, 1), (2, .iconst 0, 1), (3, .istore_n 2, 1), (4, .iload_n 2, 1), (5, .aload_n 0, 1), (6, .getfield 15, 3), (9, .getfield 80, 3), (12, .if_icmp .ge 23, 3), (15, .aload_n 0, 1), (16, .iload_n 2, 1), (17, .invokevirtual 83, 3), (20, .ifCond .eq 9, 3), (23, .iload_n 1, 1), (24, .iconst 1, 1), (25, .iload_n 2, 1), (26, .ishl, 1), (27, .ior, 1), (28, .istore_n 1, 1), (29, .iinc 2 1, 3), (32, .goto (-28), 3), (35, .iload_n 1, 1), (36, .ireturn, 1)]
set_option maxRecDepth 20000 in
theorem me_X3_allHeld : zdecs cX3_allHeld md_X3_allHeld := by
  unfold zdecs md_X3_allHeld
  decide +kernel
def md_X3_minutesOver : List (Nat × Instr × Nat) := [(0, .iconst 0, 1), (1, .istore_n 1, 1), (2, .iconst 0, 1), (3, .istore_n 2, 1), (4, .iload_n 2, 1), (5, .aload_n 0, 1), (6, .getfield 15, 3), (9, .getfield 80, 3), (12, .if_icmp .ge 21, 3), (15, .iload_n 1, 1), (16, .aload_n 0, 1), (17, .getfield 11, 3), (20, .bipush 44, 2), (22, .iload_n 2, 1), (23, .iadd, 1), (24, .iaload, 1), (25, .iadd, 1), (26, .istore_n 1, 1), (27, .iinc 2 1, 3), (30, .goto (-26), 3), (33, .iload_n 1, 1), (34, .ireturn, 1)]
set_option maxRecDepth 20000 in
theorem me_X3_minutesOver : zdecs cX3_minutesOver md_X3_minutesOver := by
  unfold zdecs md_X3_minutesOver
  decide +kernel
def md_X3_mostStarted : List (Nat × Instr × Nat) := [(0, .iconst 0, 1), (1, .istore_n 1, 1), (2, .iconst (-1), 1), (3, .istore_n 2, 1), (4, .iconst 0, 1), (5, .istore_n 3, 1), (6, .iload_n 3, 1), (7, .aload_n 0, 1), (8, .getfield 15, 3), (11, .getfield 80, 3), (14, .if_icmp .ge 34, 3), (17, .aload_n 0, 1), (18, .getfield 11, 3), (21, .bipush 52, 2), (23, .iload_n 3, 1), (24, .iadd, 1), (25, .iaload, 1), (26, .iload_n 1, 1), (27, .if_icmp .le 15, 3), (30, .aload_n 0, 1), (31, .getfield 11, 3), (34, .bipush 52, 2), (36, .iload_n 3, 1), (37, .iadd, 1), (38, .iaload, 1), (39, .istore_n 1, 1), (40, .iload_n 3, 1), (41, .istore_n 2, 1), (42, .iinc 3 1, 3), (45, .goto (-39), 3), (48, .iload_n 2, 1), (49, .ireturn, 1)]
set_option maxRecDepth 20000 in
theorem me_X3_mostStarted : zdecs cX3_mostStarted md_X3_mostStarted := by
  unfold zdecs md_X3_mostStarted
  decide +kernel
def md_X3_needOf : List (Nat × Instr × Nat) := [(0, .aload_n 0, 1), (1, .getfield 15, 3), (4, .iload_n 1, 1), (5, .invokevirtual 40, 3), (8, .ifCond .eq 16, 3), (11, .aload_n 0, 1), (12, .getfield 15, 3), (15, .getfield 53, 3), (18, .iload_n 1, 1), (19, .iaload, 1), (20, .iconst 1, 1), (21, .if_icmp .ge 5, 3), (24, .iconst (-1), 1), (25, .ireturn, 1), (26, .iconst 0, 1), (27, .istore_n 2, 1), (28, .iconst 0, 1), (29, .istore_n 3, 1), (30, .iload_n 3, 1), (31, .aload_n 0, 1), (32, .getfield 15, 3), (35, .getfield 80, 3), (38, .if_icmp .ge 82, 3), (41, .aload_n 0, 1), (42, .getfield 11, 3), (45, .bipush 12, 2), (47, .iload_n 3, 1), (48, .iadd, 1), (49, .iaload, 1), (50, .ifCond .eq 29, 3), (53, .aload_n 0, 1), (54, .getfield 11, 3), (57, .bipush 12, 2), (59, .iload_n 3, 1), (60, .iadd, 1), (61, .iaload, 1), (62, .iconst 1, 1), (63, .if_icmp .ne 20, 3), (66, .aload_n 0, 1), (67, .getfield 11, 3), (70, .bipush 20, 2), (72, .iload_n 3, 1), (73, .iadd, 1), (74, .iaload, 1), (75, .iload_n 1, 1), (76, .if_icmp .ge 7, 3), (79, .iconst 1, 1), (80, .goto 4, 3), (83, .iconst 0, 1), (84, .istore 4, 2), (86, .iload 4, 2), (88, .ifCond .eq 26, 3), (91, .aload_n 0, 1), (92, .getfield 15, 3), (95, .aload_n 0, 1), (96, .getfield 15, 3), (99, .getfield 86, 3), (102, .iload_n 3, 1), (103, .iaload, 1), (104, .iload_n 1, 1), (105, .invokevirtual 89, 3), (108, .ifCond .le 6, 3), (111, .iinc 2 1, 3), (114, .iinc 3 1, 3), (117, .goto (-87), 3), (120, .aload_n 0, 1), (121, .getfield 11, 3), (124, .iconst 0, 1), (125, .iload_n 1, 1), (126, .iadd, 1), (127, .iaload, 1), (128, .iload_n 2, 1), (129, .iadd, 1), (130, .aload_n 0, 1), (131, .getfield 15, 3), (134, .getfield 53, 3), (137, .iload_n 1, 1), (138, .iaload, 1), (139, .isub, 1), (140, .istore_n 3, 1), (141, .iload_n 3, 1), (142, .ifCond .gt 7, 3), (145, .iconst 0, 1), (146, .goto 26, 3), (149, .iload_n 3, 1), (150, .aload_n 0, 1), (151, .getfield 15, 3), (154, .getfield 53, 3), (157, .iload_n 1, 1), (158, .iaload, 1), (159, .iadd, 1), (160, .iconst 1, 1), (161, .isub, 1), (162, .aload_n 0, 1), (163, .getfield 15, 3), (166, .getfield 53, 3), (169, .iload_n 1, 1), (170, .iaload, 1), (171, .idiv, 1), (172, .ireturn, 1)]
set_option maxRecDepth 20000 in
theorem me_X3_needOf : zdecs cX3_needOf md_X3_needOf := by
  unfold zdecs md_X3_needOf
  decide +kernel
def md_X3_jammedBath : List (Nat × Instr × Nat) := [(0, .iconst (-1), 1), (1, .istore_n 1, 1), (2, .iconst 0, 1), (3, .istore_n 2, 1), (4, .iconst 1, 1), (5, .istore_n 3, 1), (6, .iconst 0, 1), (7, .istore 4, 2), (9, .iload 4, 2), (11, .aload_n 0, 1), (12, .getfield 15, 3), (15, .getfield 56, 3), (18, .if_icmp .ge 58, 3), (21, .aload_n 0, 1), (22, .iload 4, 2), (24, .invokevirtual 92, 3), (27, .istore 5, 2), (29, .iload_n 1, 1), (30, .iconst (-1), 1), (31, .if_icmp .eq 22, 3), (34, .iload 5, 2), (36, .iload_n 3, 1), (37, .imul, 1), (38, .iload_n 2, 1), (39, .aload_n 0, 1), (40, .getfield 15, 3), (43, .getfield 50, 3), (46, .iload 4, 2), (48, .iaload, 1), (49, .imul, 1), (50, .if_icmp .le 20, 3), (53, .iload 4, 2), (55, .istore_n 1, 1), (56, .iload 5, 2), (58, .istore_n 2, 1), (59, .aload_n 0, 1), (60, .getfield 15, 3), (63, .getfield 50, 3), (66, .iload 4, 2), (68, .iaload, 1), (69, .istore_n 3, 1), (70, .iinc 4 1, 3), (73, .goto (-64), 3), (76, .iload_n 1, 1), (77, .ireturn, 1)]
set_option maxRecDepth 20000 in
theorem me_X3_jammedBath : zdecs cX3_jammedBath md_X3_jammedBath := by
  unfold zdecs md_X3_jammedBath
  decide +kernel
def md_X3_askedByWaiting : List (Nat × Instr × Nat) := [(0, .iconst 0, 1), (1, .istore_n 2, 1), (2, .iconst 0, 1), (3, .istore_n 3, 1), (4, .iload_n 3, 1), (5, .aload_n 0, 1), (6, .getfield 15, 3), (9, .getfield 80, 3), (12, .if_icmp .ge 41, 3), (15, .aload_n 0, 1), (16, .getfield 11, 3), (19, .bipush 12, 2), (21, .iload_n 3, 1), (22, .iadd, 1), (23, .iaload, 1), (24, .ifCond .ne 23, 3), (27, .iload_n 2, 1), (28, .aload_n 0, 1), (29, .getfield 15, 3), (32, .aload_n 0, 1), (33, .getfield 15, 3), (36, .getfield 86, 3), (39, .iload_n 3, 1), (40, .iaload, 1), (41, .iload_n 1, 1), (42, .invokevirtual 89, 3), (45, .iadd, 1), (46, .istore_n 2, 1), (47, .iinc 3 1, 3), (50, .goto (-46), 3), (53, .iload_n 2, 1), (54, .ireturn, 1)]
set_option maxRecDepth 20000 in
theorem me_X3_askedByWaiting : zdecs cX3_askedByWaiting md_X3_askedByWaiting := by
  unfold zdecs md_X3_askedByWaiting
  decide +kernel
def md_X3_startSheet : List (Nat × Instr × Nat) := [(0, .aload_n 0, 1), (1, .getfield 15, 3), (4, .iload_n 1, 1), (5, .invokevirtual 62, 3), (8, .ifCond .ne 5, 3), (11, .iconst (-1), 1), (12, .ireturn, 1), (13, .aload_n 0, 1), (14, .getfield 11, 3), (17, .bipush 12, 2), (19, .iload_n 1, 1), (20, .iadd, 1), (21, .iaload, 1), (22, .ifCond .eq 5, 3), (25, .iconst 1, 1), (26, .ireturn, 1), (27, .aload_n 0, 1), (28, .getfield 15, 3), (31, .iload_n 1, 1), (32, .iconst (-1), 1), (33, .invokevirtual 95, 3), (36, .istore_n 2, 1), (37, .iload_n 2, 1), (38, .iconst (-1), 1), (39, .if_icmp .eq 13, 3), (42, .aload_n 0, 1), (43, .iload_n 2, 1), (44, .invokevirtual 59, 3), (47, .ifCond .ne 5, 3), (50, .iconst 2, 1), (51, .ireturn, 1), (52, .aload_n 0, 1), (53, .getfield 11, 3), (56, .bipush 44, 2), (58, .iload_n 1, 1), (59, .iadd, 1), (60, .iconst 0, 1), (61, .iastore, 1), (62, .aload_n 0, 1), (63, .getfield 11, 3), (66, .bipush 52, 2), (68, .iload_n 1, 1), (69, .iadd, 1), (70, .dup2, 1), (71, .iaload, 1), (72, .iconst 1, 1), (73, .iadd, 1), (74, .iastore, 1), (75, .iload_n 2, 1), (76, .iconst (-1), 1), (77, .if_icmp .ne 12, 3), (80, .aload_n 0, 1), (81, .iload_n 1, 1), (82, .iconst 2, 1), (83, .invokevirtual 98, 3), (86, .goto 9, 3), (89, .aload_n 0, 1), (90, .iload_n 1, 1), (91, .iload_n 2, 1), (92, .invokevirtual 102, 3), (95, .iconst 0, 1), (96, .ireturn, 1)]
set_option maxRecDepth 20000 in
theorem me_X3_startSheet : zdecs cX3_startSheet md_X3_startSheet := by
  unfold zdecs md_X3_startSheet
  decide +kernel
def md_X3_takeSheet : List (Nat × Instr × Nat) := [(0, .aload_n 0, 1), (1, .getfield 15, 3), (4, .iload_n 1, 1), (5, .invokevirtual 62, 3), (8, .ifCond .ne 5, 3), (11, .iconst (-1), 1), (12, .ireturn, 1), (13, .aload_n 0, 1), (14, .getfield 11, 3), (17, .bipush 12, 2), (19, .iload_n 1, 1), (20, .iadd, 1), (21, .iaload, 1), (22, .iconst 1, 1), (23, .if_icmp .eq 5, 3), (26, .iconst 1, 1), (27, .ireturn, 1), (28, .aload_n 0, 1), (29, .iload_n 1, 1), (30, .iconst 3, 1), (31, .invokevirtual 98, 3), (34, .iconst 0, 1), (35, .ireturn, 1)]
set_option maxRecDepth 20000 in
theorem me_X3_takeSheet : zdecs cX3_takeSheet md_X3_takeSheet := by
  unfold zdecs md_X3_takeSheet
  decide +kernel
def md_X3_againSheet : List (Nat × Instr × Nat) := [(0, .aload_n 0, 1), (1, .getfield 15, 3), (4, .iload_n 1, 1), (5, .invokevirtual 62, 3), (8, .ifCond .ne 5, 3), (11, .iconst (-1), 1), (12, .ireturn, 1), (13, .aload_n 0, 1), (14, .getfield 11, 3), (17, .bipush 12, 2), (19, .iload_n 1, 1), (20, .iadd, 1), (21, .iaload, 1), (22, .iconst 3, 1), (23, .if_icmp .eq 5, 3), (26, .iconst 1, 1), (27, .ireturn, 1), (28, .aload_n 0, 1), (29, .iload_n 1, 1), (30, .iconst 0, 1), (31, .invokevirtual 98, 3), (34, .iconst 0, 1), (35, .ireturn, 1)]
set_option maxRecDepth 20000 in
theorem me_X3_againSheet : zdecs cX3_againSheet md_X3_againSheet := by
  unfold zdecs md_X3_againSheet
  decide +kernel
def md_X3_renewBath : List (Nat × Instr × Nat) := [(0, .aload_n 0, 1), (1, .getfield 15, 3), (4, .iload_n 1, 1), (5, .invokevirtual 40, 3), (8, .ifCond .ne 5, 3), (11, .iconst (-1), 1), (12, .ireturn, 1), (13, .aload_n 0, 1), (14, .getfield 11, 3), (17, .iconst 0, 1), (18, .iload_n 1, 1), (19, .iadd, 1), (20, .iaload, 1), (21, .ifCond .ne 5, 3), (24, .iconst 1, 1), (25, .ireturn, 1), (26, .aload_n 0, 1), (27, .getfield 11, 3), (30, .bipush 61, 2), (32, .iaload, 1), (33, .ifCond .gt 5, 3), (36, .iconst 2, 1), (37, .ireturn, 1), (38, .aload_n 0, 1), (39, .getfield 11, 3), (42, .bipush 6, 2), (44, .iload_n 1, 1), (45, .iadd, 1), (46, .iaload, 1), (47, .ifCond .eq 5, 3), (50, .iconst 3, 1), (51, .ireturn, 1), (52, .aload_n 0, 1), (53, .getfield 11, 3), (56, .iconst 0, 1), (57, .iload_n 1, 1), (58, .iadd, 1), (59, .iconst 0, 1), (60, .iastore, 1), (61, .aload_n 0, 1), (62, .getfield 11, 3), (65, .bipush 61, 2), (67, .dup2, 1), (68, .iaload, 1), (69, .iconst 1, 1), (70, .isub, 1), (71, .iastore, 1), (72, .iconst 0, 1), (73, .ireturn, 1)]
set_option maxRecDepth 20000 in
theorem me_X3_renewBath : zdecs cX3_renewBath md_X3_renewBath := by
  unfold zdecs md_X3_renewBath
  decide +kernel
def md_X3_pass : List (Nat × Instr × Nat) := [(0, .iload_n 1, 1), (1, .istore_n 2, 1), (2, .iload_n 2, 1), (3, .ifCond .le 123, 3), (6, .aload_n 0, 1), (7, .iload_n 2, 1), (8, .invokevirtual 105, 3), (11, .istore_n 3, 1), (12, .iload_n 3, 1), (13, .ifCond .le 15, 3), (16, .aload_n 0, 1), (17, .iload_n 3, 1), (18, .invokevirtual 108, 3), (21, .iload_n 2, 1), (22, .iload_n 3, 1), (23, .isub, 1), (24, .istore_n 2, 1), (25, .goto (-23), 3), (28, .aload_n 0, 1), (29, .getfield 15, 3), (32, .getfield 56, 3), (35, .iconst 1, 1), (36, .isub, 1), (37, .istore 4, 2), (39, .iload 4, 2), (41, .ifCond .lt 68, 3), (44, .aload_n 0, 1), (45, .getfield 11, 3), (48, .bipush 6, 2), (50, .iload 4, 2), (52, .iadd, 1), (53, .iaload, 1), (54, .istore 5, 2), (56, .iconst 0, 1), (57, .istore 6, 2), (59, .iload 6, 2), (61, .aload_n 0, 1), (62, .getfield 15, 3), (65, .getfield 80, 3), (68, .if_icmp .ge 35, 3), (71, .iload 5, 2), (73, .iload 6, 2), (75, .ishr, 1), (76, .ifCond .eq 27, 3), (79, .iload 5, 2), (81, .iload 6, 2), (83, .ishr, 1), (84, .iconst 1, 1), (85, .iand, 1), (86, .ifCond .eq 11, 3), (89, .aload_n 0, 1), (90, .iload 6, 2), (92, .iload 4, 2), (94, .invokevirtual 112, 3), (97, .iinc 6 1, 3), (100, .goto (-41), 3), (103, .iinc 4 (-1), 3), (106, .goto (-67), 3), (109, .aload_n 0, 1), (110, .getfield 11, 3), (113, .bipush 60, 2), (115, .dup2, 1), (116, .iaload, 1), (117, .iconst 1, 1), (118, .iadd, 1), (119, .iastore, 1), (120, .iinc 2 (-1), 3), (123, .goto (-121), 3), (126, .return_, 1)]
set_option maxRecDepth 20000 in
theorem me_X3_pass : zdecs cX3_pass md_X3_pass := by
  unfold zdecs md_X3_pass
  decide +kernel
def md_X3_quietMinutes : List (Nat × Instr × Nat) := [(0, .iload_n 1, 1), (1, .istore_n 2, 1), (2, .iconst 0, 1), (3, .istore_n 3, 1), (4, .iload_n 3, 1), (5, .aload_n 0, 1), (6, .getfield 15, 3), (9, .getfield 80, 3), (12, .if_icmp .ge 49, 3), (15, .aload_n 0, 1), (16, .getfield 11, 3), (19, .bipush 12, 2), (21, .iload_n 3, 1), (22, .iadd, 1), (23, .iaload, 1), (24, .iconst 1, 1), (25, .if_icmp .ne 30, 3), (28, .aload_n 0, 1), (29, .getfield 11, 3), (32, .bipush 28, 2), (34, .iload_n 3, 1), (35, .iadd, 1), (36, .iaload, 1), (37, .iconst 1, 1), (38, .isub, 1), (39, .iload_n 2, 1), (40, .if_icmp .ge 15, 3), (43, .aload_n 0, 1), (44, .getfield 11, 3), (47, .bipush 28, 2), (49, .iload_n 3, 1), (50, .iadd, 1), (51, .iaload, 1), (52, .iconst 1, 1), (53, .isub, 1), (54, .istore_n 2, 1), (55, .iinc 3 1, 3), (58, .goto (-54), 3), (61, .iload_n 2, 1), (62, .ireturn, 1)]
set_option maxRecDepth 20000 in
theorem me_X3_quietMinutes : zdecs cX3_quietMinutes md_X3_quietMinutes := by
  unfold zdecs md_X3_quietMinutes
  decide +kernel
def md_X3_skip : List (Nat × Instr × Nat) := [(0, .iconst 0, 1), (1, .istore_n 2, 1), (2, .iload_n 2, 1), (3, .aload_n 0, 1), (4, .getfield 15, 3), (7, .getfield 80, 3), (10, .if_icmp .ge 35, 3), (13, .aload_n 0, 1), (14, .getfield 11, 3), (17, .bipush 12, 2), (19, .iload_n 2, 1), (20, .iadd, 1), (21, .iaload, 1), (22, .iconst 1, 1), (23, .if_icmp .ne 16, 3), (26, .aload_n 0, 1), (27, .getfield 11, 3), (30, .bipush 28, 2), (32, .iload_n 2, 1), (33, .iadd, 1), (34, .dup2, 1), (35, .iaload, 1), (36, .iload_n 1, 1), (37, .isub, 1), (38, .iastore, 1), (39, .iinc 2 1, 3), (42, .goto (-40), 3), (45, .aload_n 0, 1), (46, .getfield 11, 3), (49, .bipush 60, 2), (51, .dup2, 1), (52, .iaload, 1), (53, .iload_n 1, 1), (54, .iadd, 1), (55, .iastore, 1), (56, .return_, 1)]
set_option maxRecDepth 20000 in
theorem me_X3_skip : zdecs cX3_skip md_X3_skip := by
  unfold zdecs md_X3_skip
  decide +kernel
def md_X3_isBusy : List (Nat × Instr × Nat) := [(0, .aload_n 0, 1), (1, .iconst 1, 1), (2, .invokevirtual 115, 3), (5, .ifCond .eq 7, 3), (8, .iconst 1, 1), (9, .goto 4, 3), (12, .iconst 0, 1), (13, .ireturn, 1)]
set_option maxRecDepth 20000 in
theorem me_X3_isBusy : zdecs cX3_isBusy md_X3_isBusy := by
  unfold zdecs md_X3_isBusy
  decide +kernel
def md_X3_work : List (Nat × Instr × Nat) := [(0, .aload_n 0, 1), (1, .getfield 11, 3), (4, .bipush 28, 2), (6, .iload_n 1, 1), (7, .iadd, 1), (8, .iaload, 1), (9, .ifCond .le 16, 3), (12, .aload_n 0, 1), (13, .getfield 11, 3), (16, .bipush 28, 2), (18, .iload_n 1, 1), (19, .iadd, 1), (20, .dup2, 1), (21, .iaload, 1), (22, .iconst 1, 1), (23, .isub, 1), (24, .iastore, 1), (25, .aload_n 0, 1), (26, .getfield 11, 3), (29, .bipush 28, 2), (31, .iload_n 1, 1), (32, .iadd, 1), (33, .iaload, 1), (34, .ifCond .le 4, 3), (37, .return_, 1), (38, .aload_n 0, 1), (39, .getfield 15, 3), (42, .iload_n 1, 1), (43, .iload_n 2, 1), (44, .invokevirtual 95, 3), (47, .istore_n 3, 1), (48, .iload_n 3, 1), (49, .iconst (-1), 1), (50, .if_icmp .ne 12, 3), (53, .aload_n 0, 1), (54, .iload_n 1, 1), (55, .iconst 2, 1), (56, .invokevirtual 98, 3), (59, .goto 74, 3), (62, .aload_n 0, 1), (63, .iload_n 3, 1), (64, .invokevirtual 59, 3), (67, .ifCond .eq 12, 3), (70, .aload_n 0, 1), (71, .iload_n 1, 1), (72, .iload_n 3, 1), (73, .invokevirtual 102, 3), (76, .goto 57, 3), (79, .aload_n 0, 1), (80, .getfield 11, 3), (83, .bipush 36, 2), (85, .iload_n 1, 1), (86, .iadd, 1), (87, .iaload, 1), (88, .aload_n 0, 1), (89, .getfield 15, 3), (92, .getfield 118, 3), (95, .if_icmp .lt 12, 3), (98, .aload_n 0, 1), (99, .iload_n 1, 1), (100, .iconst 3, 1), (101, .invokevirtual 98, 3), (104, .goto 29, 3), (107, .aload_n 0, 1), (108, .getfield 11, 3), (111, .bipush 36, 2), (113, .iload_n 1, 1), (114, .iadd, 1), (115, .dup2, 1), (116, .iaload, 1), (117, .iconst 1, 1), (118, .iadd, 1), (119, .iastore, 1), (120, .aload_n 0, 1), (121, .getfield 11, 3), (124, .bipush 44, 2), (126, .iload_n 1, 1), (127, .iadd, 1), (128, .dup2, 1), (129, .iaload, 1), (130, .iconst 1, 1), (131, .iadd, 1), (132, .iastore, 1), (133, .return_, 1)]
set_option maxRecDepth 20000 in
theorem me_X3_work : zdecs cX3_work md_X3_work := by
  unfold zdecs md_X3_work
  decide +kernel
def md_X3_enter : List (Nat × Instr × Nat) := [(0, .aload_n 0, 1), (1, .iload_n 1, 1), (2, .iconst 1, 1), (3, .invokevirtual 98, 3), (6, .iconst 2, 1), (7, .aload_n 0, 1), (8, .getfield 11, 3), (11, .iconst 0, 1), (12, .iload_n 2, 1), (13, .iadd, 1), (14, .iaload, 1), (15, .imul, 1), (16, .aload_n 0, 1), (17, .getfield 15, 3), (20, .getfield 53, 3), (23, .iload_n 2, 1), (24, .iaload, 1), (25, .if_icmp .lt 7, 3), (28, .iconst 1, 1), (29, .goto 4, 3), (32, .iconst 0, 1), (33, .istore_n 3, 1), (34, .aload_n 0, 1), (35, .getfield 11, 3), (38, .bipush 20, 2), (40, .iload_n 1, 1), (41, .iadd, 1), (42, .iload_n 2, 1), (43, .iastore, 1), (44, .aload_n 0, 1), (45, .getfield 11, 3), (48, .bipush 28, 2), (50, .iload_n 1, 1), (51, .iadd, 1), (52, .aload_n 0, 1), (53, .getfield 15, 3), (56, .aload_n 0, 1), (57, .getfield 15, 3), (60, .getfield 86, 3), (63, .iload_n 1, 1), (64, .iaload, 1), (65, .iload_n 2, 1), (66, .invokevirtual 89, 3), (69, .iload_n 3, 1), (70, .ifCond .eq 13, 3), (73, .aload_n 0, 1), (74, .getfield 15, 3), (77, .getfield 121, 3), (80, .goto 4, 3), (83, .iconst 0, 1), (84, .iadd, 1), (85, .iastore, 1), (86, .aload_n 0, 1), (87, .getfield 11, 3), (90, .bipush 6, 2), (92, .iload_n 2, 1), (93, .iadd, 1), (94, .dup2, 1), (95, .iaload, 1), (96, .iconst 1, 1), (97, .iload_n 1, 1), (98, .ishl, 1), (99, .ior, 1), (100, .iastore, 1), (101, .aload_n 0, 1), (102, .getfield 11, 3), (105, .iconst 0, 1), (106, .iload_n 2, 1), (107, .iadd, 1), (108, .dup2, 1), (109, .iaload, 1), (110, .iconst 1, 1), (111, .iadd, 1), (112, .iastore, 1), (113, .return_, 1)]
set_option maxRecDepth 20000 in
theorem me_X3_enter : zdecs cX3_enter md_X3_enter := by
  unfold zdecs md_X3_enter
  decide +kernel
def md_X3_settle : List (Nat × Instr × Nat) := [(0, .aload_n 0, 1), (1, .getfield 11, 3), (4, .bipush 20, 2), (6, .iload_n 1, 1), (7, .iadd, 1), (8, .iaload, 1), (9, .istore_n 3, 1), (10, .iload_n 3, 1), (11, .ifCond .lt 20, 3), (14, .aload_n 0, 1), (15, .getfield 11, 3), (18, .bipush 6, 2), (20, .iload_n 3, 1), (21, .iadd, 1), (22, .dup2, 1), (23, .iaload, 1), (24, .iconst 1, 1), (25, .iload_n 1, 1), (26, .ishl, 1), (27, .iconst (-1), 1), (28, .ixor, 1), (29, .iand, 1), (30, .iastore, 1), (31, .aload_n 0, 1), (32, .getfield 11, 3), (35, .bipush 12, 2), (37, .iload_n 1, 1), (38, .iadd, 1), (39, .iload_n 2, 1), (40, .iastore, 1), (41, .aload_n 0, 1), (42, .getfield 11, 3), (45, .bipush 20, 2), (47, .iload_n 1, 1), (48, .iadd, 1), (49, .iconst (-1), 1), (50, .iastore, 1), (51, .aload_n 0, 1), (52, .getfield 11, 3), (55, .bipush 28, 2), (57, .iload_n 1, 1), (58, .iadd, 1), (59, .iconst 0, 1), (60, .iastore, 1), (61, .aload_n 0, 1), (62, .getfield 11, 3), (65, .bipush 36, 2), (67, .iload_n 1, 1), (68, .iadd, 1), (69, .iconst 0, 1), (70, .iastore, 1), (71, .return_, 1)]
set_option maxRecDepth 20000 in
theorem me_X3_settle : zdecs cX3_settle md_X3_settle := by
  unfold zdecs md_X3_settle
  decide +kernel
def md_X4_init : List (Nat × Instr × Nat) := [(0, .aload_n 0, 1), (1, .invokespecial 3, 3), (4, .aload_n 0, 1), (5, .bipush 25, 2), (7, .newarray .int, 2), (9, .putfield 9, 3), (12, .aload_n 0, 1), (13, .iconst 5, 1), (14, .newarray .int, 2), (16, .putfield 15, 3), (19, .aload_n 0, 1), (20, .iconst 5, 1), (21, .newarray .int, 2), (23, .putfield 18, 3), (26, .aload_n 0, 1), (27, .iconst (-1), 1), (28, .putfield 21, 3), (31, .aload_n 0, 1), (32, .aload_n 1, 1), (33, .putfield 25, 3), (36, .return_, 1)]
set_option maxRecDepth 20000 in
theorem me_X4_init : zdecs cX4_init md_X4_init := by
  unfold zdecs md_X4_init
  decide +kernel
def md_X4_minutesOf : List (Nat × Instr × Nat) := [(0, .aload_n 0, 1), (1, .getfield 25, 3), (4, .iload_n 1, 1), (5, .invokevirtual 29, 3), (8, .ifCond .ne 5, 3), (11, .iconst (-1), 1), (12, .ireturn, 1), (13, .iconst 0, 1), (14, .istore_n 2, 1), (15, .iconst 0, 1), (16, .istore_n 3, 1), (17, .iload_n 3, 1), (18, .aload_n 0, 1), (19, .getfield 25, 3), (22, .getfield 35, 3), (25, .if_icmp .ge 21, 3), (28, .iload_n 2, 1), (29, .aload_n 0, 1), (30, .getfield 25, 3), (33, .iload_n 1, 1), (34, .iload_n 3, 1), (35, .invokevirtual 38, 3), (38, .iadd, 1), (39, .istore_n 2, 1), (40, .iinc 3 1, 3), (43, .goto (-26), 3), (46, .iload_n 2, 1), (47, .ireturn, 1)]
set_option maxRecDepth 20000 in
theorem me_X4_minutesOf : zdecs cX4_minutesOf md_X4_minutesOf := by
  unfold zdecs md_X4_minutesOf
  decide +kernel
def md_X4_mostAlike : List (Nat × Instr × Nat) := [(0, .iconst (-1), 1), (1, .istore_n 2, 1), (2, .iconst 0, 1), (3, .istore_n 3, 1), (4, .iconst 0, 1), (5, .istore 4, 2), (7, .iload 4, 2), (9, .aload_n 0, 1), (10, .getfield 25, 3), (13, .getfield 42, 3), (16, .if_icmp .ge 97, 3), (19, .aload_n 0, 1), (20, .getfield 25, 3), (23, .iload_n 1, 1), (24, .invokevirtual 29, 3), (27, .ifCond .eq 86, 3), (30, .iconst 0, 1), (31, .istore 5, 2), (33, .iconst 0, 1), (34, .istore 6, 2), (36, .iload 6, 2), (38, .aload_n 0, 1), (39, .getfield 25, 3), (42, .getfield 35, 3), (45, .if_icmp .ge 39, 3), (48, .iload 5, 2), (50, .aload_n 0, 1), (51, .getfield 25, 3), (54, .iload_n 1, 1), (55, .iload 6, 2), (57, .invokevirtual 38, 3), (60, .aload_n 0, 1), (61, .getfield 25, 3), (64, .iload 4, 2), (66, .iload 6, 2), (68, .invokevirtual 38, 3), (71, .isub, 1), (72, .invokestatic 45, 3), (75, .iadd, 1), (76, .istore 5, 2), (78, .iinc 6 1, 3), (81, .goto (-45), 3), (84, .iload 4, 2), (86, .iload_n 1, 1), (87, .if_icmp .eq 20, 3), (90, .iload_n 2, 1), (91, .iconst (-1), 1), (92, .if_icmp .eq 9, 3), (95, .iload 5, 2), (97, .iload_n 3, 1), (98, .if_icmp .ge 9, 3), (101, .iload 4, 2), (103, .istore_n 2, 1), (104, .iload 5, 2), (106, .istore_n 3, 1), (107, .iinc 4 1, 3), (110, .goto (-103), 3), (113, .iload_n 2, 1), (114, .ireturn, 1)]
set_option maxRecDepth 20000 in
theorem me_X4_mostAlike : zdecs cX4_mostAlike md_X4_mostAlike := by
  unfold zdecs md_X4_mostAlike
  decide +kernel
def md_X4_gapOf : List (Nat × Instr × Nat) := [(0, .iconst 0, 1), (1, .istore_n 3, 1), (2, .iload_n 3, 1), (3, .sipush 180, 3), (6, .if_icmp .gt 21, 3), (9, .aload_n 0, 1), (10, .iload_n 1, 1), (11, .iload_n 2, 1), (12, .iload_n 3, 1), (13, .invokevirtual 51, 3), (16, .ifCond .ne 5, 3), (19, .iload_n 3, 1), (20, .ireturn, 1), (21, .iinc 3 1, 3), (24, .goto (-22), 3), (27, .iconst (-1), 1), (28, .ireturn, 1)]
set_option maxRecDepth 20000 in
theorem me_X4_gapOf : zdecs cX4_gapOf md_X4_gapOf := by
  unfold zdecs md_X4_gapOf
  decide +kernel
def md_X4_meet : List (Nat × Instr × Nat) := [(0, .iconst 0, 1), (1, .istore 4, 2), (3, .iload_n 3, 1), (4, .istore 5, 2), (6, .iconst 0, 1), (7, .istore 6, 2), (9, .iload 6, 2), (11, .aload_n 0, 1), (12, .getfield 25, 3), (15, .getfield 35, 3), (18, .if_icmp .ge 79, 3), (21, .aload_n 0, 1), (22, .getfield 25, 3), (25, .iload_n 1, 1), (26, .iload 6, 2), (28, .invokevirtual 38, 3), (31, .istore 7, 2), (33, .aload_n 0, 1), (34, .getfield 25, 3), (37, .iload_n 2, 1), (38, .iload 6, 2), (40, .invokevirtual 38, 3), (43, .istore 8, 2), (45, .iload 7, 2), (47, .ifCond .le 30, 3), (50, .iload 8, 2), (52, .ifCond .le 25, 3), (55, .iload 4, 2), (57, .iload 5, 2), (59, .iload 8, 2), (61, .iadd, 1), (62, .if_icmp .ge 15, 3), (65, .iload 5, 2), (67, .iload 4, 2), (69, .iload 7, 2), (71, .iadd, 1), (72, .if_icmp .ge 5, 3), (75, .iconst 1, 1), (76, .ireturn, 1), (77, .iload 4, 2), (79, .iload 7, 2), (81, .iadd, 1), (82, .istore 4, 2), (84, .iload 5, 2), (86, .iload 8, 2), (88, .iadd, 1), (89, .istore 5, 2), (91, .iinc 6 1, 3), (94, .goto (-85), 3), (97, .iconst 0, 1), (98, .ireturn, 1)]
set_option maxRecDepth 20000 in
theorem me_X4_meet : zdecs cX4_meet md_X4_meet := by
  unfold zdecs md_X4_meet
  decide +kernel
def md_X4_bestChain : List (Nat × Instr × Nat) := [(0, .aload_n 0, 1), (1, .getfield 25, 3), (4, .getfield 42, 3), (7, .istore_n 1, 1), (8, .iconst 0, 1), (9, .istore_n 2, 1), (10, .iload_n 2, 1), (11, .iload_n 1, 1), (12, .if_icmp .ge 45, 3), (15, .aload_n 0, 1), (16, .getfield 15, 3), (19, .iload_n 2, 1), (20, .iload_n 2, 1), (21, .iastore, 1), (22, .iconst 0, 1), (23, .istore_n 3, 1), (24, .iload_n 3, 1), (25, .iload_n 1, 1), (26, .if_icmp .ge 25, 3), (29, .aload_n 0, 1), (30, .getfield 9, 3), (33, .iload_n 2, 1), (34, .iconst 5, 1), (35, .imul, 1), (36, .iload_n 3, 1), (37, .iadd, 1), (38, .aload_n 0, 1), (39, .iload_n 2, 1), (40, .iload_n 3, 1), (41, .invokevirtual 55, 3), (44, .iastore, 1), (45, .iinc 3 1, 3), (48, .goto (-24), 3), (51, .iinc 2 1, 3), (54, .goto (-44), 3), (57, .iconst (-1), 1), (58, .istore_n 2, 1), (59, .iconst 1, 1), (60, .istore_n 3, 1), (61, .iconst 0, 1), (62, .istore 4, 2), (64, .iload 4, 2), (66, .bipush 120, 2), (68, .if_icmp .ge 57, 3), (71, .iload_n 3, 1), (72, .ifCond .eq 53, 3), (75, .aload_n 0, 1), (76, .iload_n 1, 1), (77, .invokevirtual 58, 3), (80, .istore 5, 2), (82, .iload_n 2, 1), (83, .iconst (-1), 1), (84, .if_icmp .eq 9, 3), (87, .iload 5, 2), (89, .iload_n 2, 1), (90, .if_icmp .ge 20, 3), (93, .iload 5, 2), (95, .istore_n 2, 1), (96, .aload_n 0, 1), (97, .getfield 15, 3), (100, .iconst 0, 1), (101, .aload_n 0, 1), (102, .getfield 18, 3), (105, .iconst 0, 1), (106, .iconst 5, 1), (107, .invokestatic 61, 3), (110, .aload_n 0, 1), (111, .getfield 15, 3), (114, .iload_n 1, 1), (115, .invokestatic 67, 3), (118, .istore_n 3, 1), (119, .iinc 4 1, 3), (122, .goto (-58), 3), (125, .aload_n 0, 1), (126, .iload_n 1, 1), (127, .putfield 71, 3), (130, .iload_n 2, 1), (131, .ireturn, 1)]
set_option maxRecDepth 20000 in
theorem me_X4_bestChain : zdecs cX4_bestChain md_X4_bestChain := by
  unfold zdecs md_X4_bestChain
  decide +kernel
def md_X4_gapsOfRow : List (Nat × Instr × Nat) := [(0, .iconst 0, 1), (1, .istore_n 2, 1), (2, .iconst 0, 1), (3, .istore_n 3, 1), (4, .iload_n 3, 1), (5, .iconst 1, 1), (6, .iadd, 1), (7, .iload_n 1, 1), (8, .if_icmp .ge 34, 3), (11, .iload_n 2, 1), (12, .aload_n 0, 1), (13, .getfield 9, 3), (16, .aload_n 0, 1), (17, .getfield 15, 3), (20, .iload_n 3, 1), (21, .iaload, 1), (22, .iconst 5, 1), (23, .imul, 1), (24, .aload_n 0, 1), (25, .getfield 15, 3), (28, .iload_n 3, 1), (29, .iconst 1, 1), (30, .iadd, 1), (31, .iaload, 1), (32, .iadd, 1), (33, .iaload, 1), (34, .iadd, 1), (35, .istore_n 2, 1), (36, .iinc 3 1, 3), (39, .goto (-35), 3), (42, .iload_n 2, 1), (43, .ireturn, 1)]
set_option maxRecDepth 20000 in
theorem me_X4_gapsOfRow : zdecs cX4_gapsOfRow md_X4_gapsOfRow := by
  unfold zdecs md_X4_gapsOfRow
  decide +kernel
def md_X4_sheetsByTape : List (Nat × Instr × Nat) := [(0, .aload_n 1, 1), (1, .getfield 74, 3), (4, .istore_n 2, 1), (5, .iload_n 2, 1), (6, .iconst 2, 1), (7, .if_icmp .lt 15, 3), (10, .iload_n 2, 1), (11, .bipush 12, 2), (13, .if_icmp .gt 9, 3), (16, .iload_n 2, 1), (17, .iconst 2, 1), (18, .irem, 1), (19, .ifCond .eq 5, 3), (22, .iconst (-1), 1), (23, .ireturn, 1), (24, .iconst 1, 1), (25, .aload_n 0, 1), (26, .getfield 25, 3), (29, .getfield 79, 3), (32, .ishl, 1), (33, .iconst 1, 1), (34, .isub, 1), (35, .istore_n 3, 1), (36, .iconst 0, 1), (37, .istore 4, 2), (39, .iload 4, 2), (41, .iconst 1, 1), (42, .iadd, 1), (43, .iload_n 2, 1), (44, .if_icmp .ge 51, 3), (47, .aload_n 0, 1), (48, .getfield 25, 3), (51, .aload_n 1, 1), (52, .getfield 82, 3), (55, .iload 4, 2), (57, .iaload, 1), (58, .invokevirtual 85, 3), (61, .ifCond .ne 5, 3), (64, .iconst (-1), 1), (65, .ireturn, 1), (66, .iload_n 3, 1), (67, .aload_n 0, 1), (68, .aload_n 1, 1), (69, .getfield 82, 3), (72, .iload 4, 2), (74, .iaload, 1), (75, .aload_n 1, 1), (76, .getfield 82, 3), (79, .iload 4, 2), (81, .iconst 1, 1), (82, .iadd, 1), (83, .iaload, 1), (84, .invokevirtual 88, 3), (87, .iand, 1), (88, .istore_n 3, 1), (89, .iinc 4 2, 3), (92, .goto (-53), 3), (95, .iload_n 3, 1), (96, .ireturn, 1)]
set_option maxRecDepth 20000 in
theorem me_X4_sheetsByTape : zdecs cX4_sheetsByTape md_X4_sheetsByTape := by
  unfold zdecs md_X4_sheetsByTape
  decide +kernel
def md_X4_sheetsThatAsk : List (Nat × Instr × Nat) := [(0, .iconst 0, 1), (1, .istore_n 3, 1), (2, .iconst 0, 1), (3, .istore 4, 2), (5, .iload 4, 2), (7, .aload_n 0, 1), (8, .getfield 25, 3), (11, .getfield 79, 3), (14, .if_icmp .ge 38, 3), (17, .aload_n 0, 1), (18, .getfield 25, 3), (21, .aload_n 0, 1), (22, .getfield 25, 3), (25, .getfield 91, 3), (28, .iload 4, 2), (30, .iaload, 1), (31, .iload_n 1, 1), (32, .invokevirtual 38, 3), (35, .iload_n 2, 1), (36, .if_icmp .ne 10, 3), (39, .iload_n 3, 1), (40, .iconst 1, 1), (41, .iload 4, 2), (43, .ishl, 1), (44, .ior, 1), (45, .istore_n 3, 1), (46, .iinc 4 1, 3), (49, .goto (-44), 3), (52, .iload_n 3, 1), (53, .ireturn, 1)]
set_option maxRecDepth 20000 in
theorem me_X4_sheetsThatAsk : zdecs cX4_sheetsThatAsk md_X4_sheetsThatAsk := by
  unfold zdecs md_X4_sheetsThatAsk
  decide +kernel
def md_X4_chooseQuestion : List (Nat × Instr × Nat) := [(0, .bipush 9, 2), (2, .istore_n 2, 1), (3, .iconst 0, 1), (4, .istore_n 3, 1), (5, .iload_n 3, 1), (6, .aload_n 0, 1), (7, .getfield 25, 3), (10, .getfield 35, 3), (13, .if_icmp .ge 95, 3), (16, .iconst 0, 1), (17, .istore 4, 2), (19, .iconst 0, 1), (20, .istore 5, 2), (22, .iload 5, 2), (24, .aload_n 0, 1), (25, .getfield 25, 3), (28, .getfield 79, 3), (31, .if_icmp .ge 57, 3), (34, .iload_n 1, 1), (35, .iload 5, 2), (37, .ishr, 1), (38, .iconst 1, 1), (39, .iand, 1), (40, .ifCond .eq 42, 3), (43, .aload_n 0, 1), (44, .iload_n 3, 1), (45, .aload_n 0, 1), (46, .getfield 25, 3), (49, .aload_n 0, 1), (50, .getfield 25, 3), (53, .getfield 91, 3), (56, .iload 5, 2), (58, .iaload, 1), (59, .iload_n 3, 1), (60, .invokevirtual 38, 3), (63, .invokevirtual 88, 3), (66, .iload_n 1, 1), (67, .iand, 1), (68, .istore 6, 2), (70, .iload 4, 2), (72, .iload 6, 2), (74, .invokestatic 94, 3), (77, .invokestatic 99, 3), (80, .istore 4, 2), (82, .iinc 5 1, 3), (85, .goto (-63), 3), (88, .iload 4, 2), (90, .iload_n 2, 1), (91, .if_icmp .ge 11, 3), (94, .iload 4, 2), (96, .istore_n 2, 1), (97, .aload_n 0, 1), (98, .iload_n 3, 1), (99, .putfield 21, 3), (102, .iinc 3 1, 3), (105, .goto (-100), 3), (108, .return_, 1)]
set_option maxRecDepth 20000 in
theorem me_X4_chooseQuestion : zdecs cX4_chooseQuestion md_X4_chooseQuestion := by
  unfold zdecs md_X4_chooseQuestion
  decide +kernel
def md_X5_init : List (Nat × Instr × Nat) := [(0, .aload_n 0, 1), (1, .invokespecial 5, 3), (4, .aload_n 0, 1), (5, .bipush 9, 2), (7, .bipush 62, 2), (9, .multianewarray 13 2, 4), (13, .putfield 15, 3), (16, .return_, 1)]
set_option maxRecDepth 20000 in
theorem me_X5_init : zdecs cX5_init md_X5_init := by
  unfold zdecs md_X5_init
  decide +kernel
def md_X5_mark : List (Nat × Instr × Nat) := [(0, .aload_n 1, 1), (1, .aload_n 0, 1), (2, .getfield 15, 3), (5, .aload_n 0, 1), (6, .getfield 18, 3), (9, .aaload, 1), (10, .invokevirtual 22, 3), (13, .return_, 1)]
set_option maxRecDepth 20000 in
theorem me_X5_mark : zdecs cX5_mark md_X5_mark := by
  unfold zdecs md_X5_mark
  decide +kernel
def md_X5_keepMarked : List (Nat × Instr × Nat) := [(0, .aload_n 0, 1), (1, .aload_n 0, 1), (2, .getfield 18, 3), (5, .iconst 1, 1), (6, .iadd, 1), (7, .bipush 9, 2), (9, .if_icmp .ge 12, 3), (12, .aload_n 0, 1), (13, .getfield 18, 3), (16, .iconst 1, 1), (17, .iadd, 1), (18, .goto 4, 3), (21, .iconst 0, 1), (22, .putfield 18, 3), (25, .aload_n 0, 1), (26, .aload_n 0, 1), (27, .getfield 26, 3), (30, .iconst 1, 1), (31, .iadd, 1), (32, .bipush 8, 2), (34, .invokestatic 29, 3), (37, .putfield 26, 3), (40, .return_, 1)]
set_option maxRecDepth 20000 in
theorem me_X5_keepMarked : zdecs cX5_keepMarked md_X5_keepMarked := by
  unfold zdecs md_X5_keepMarked
  decide +kernel
def md_X5_forget : List (Nat × Instr × Nat) := [(0, .aload_n 0, 1), (1, .iconst 0, 1), (2, .putfield 26, 3), (5, .return_, 1)]
set_option maxRecDepth 20000 in
theorem me_X5_forget : zdecs cX5_forget md_X5_forget := by
  unfold zdecs md_X5_forget
  decide +kernel
def md_X5_takeBack : List (Nat × Instr × Nat) := [(0, .aload_n 0, 1), (1, .getfield 26, 3), (4, .ifCond .ne 5, 3), (7, .iconst (-1), 1), (8, .ireturn, 1), (9, .aload_n 0, 1), (10, .aload_n 0, 1), (11, .getfield 18, 3), (14, .ifCond .le 12, 3), (17, .aload_n 0, 1), (18, .getfield 18, 3), (21, .iconst 1, 1), (22, .isub, 1), (23, .goto 5, 3), (26, .bipush 8, 2), (28, .putfield 18, 3), (31, .aload_n 0, 1), (32, .dup, 1), (33, .getfield 26, 3), (36, .iconst 1, 1), (37, .isub, 1), (38, .putfield 26, 3), (41, .aload_n 1, 1), (42, .aload_n 0, 1), (43, .getfield 15, 3), (46, .aload_n 0, 1), (47, .getfield 18, 3), (50, .aaload, 1), (51, .invokevirtual 35, 3), (54, .aload_n 0, 1), (55, .getfield 26, 3), (58, .ireturn, 1)]
set_option maxRecDepth 20000 in
theorem me_X5_takeBack : zdecs cX5_takeBack md_X5_takeBack := by
  unfold zdecs md_X5_takeBack
  decide +kernel
def md_X6_init : List (Nat × Instr × Nat) := [(0, .aload_n 0, 1), (1, .invokespecial 3, 3), (4, .aload_n 0, 1), (5, .iconst 3, 1), (6, .newarray .int, 2), (8, .putfield 11, 3), (11, .aload_n 0, 1), (12, .iconst 3, 1), (13, .newarray .int, 2), (15, .putfield 15, 3), (18, .aload_n 0, 1), (19, .iconst 3, 1), (20, .newarray .int, 2), (22, .putfield 18, 3), (25, .aload_n 0, 1), (26, .iconst 3, 1), (27, .newarray .int, 2), (29, .putfield 21, 3), (32, .aload_n 0, 1), (33, .aload_n 2, 1), (34, .putfield 24, 3), (37, .aload_n 0, 1), (38, .aload_n 3, 1), (39, .putfield 28, 3), (42, .aload_n 0, 1), (43, .new 31, 3), (46, .dup, 1), (47, .aload_n 1, 1), (48, .invokespecial 33, 3), (51, .putfield 36, 3), (54, .aload_n 0, 1), (55, .new 31, 3), (58, .dup, 1), (59, .aload_n 1, 1), (60, .invokespecial 33, 3), (63, .putfield 39, 3), (66, .aload_n 0, 1), (67, .new 31, 3), (70, .dup, 1), (71, .aload_n 1, 1), (72, .invokespecial 33, 3), (75, .putfield 42, 3), (78, .return_, 1)]
set_option maxRecDepth 20000 in
theorem me_X6_init : zdecs cX6_init md_X6_init := by
  unfold zdecs md_X6_init
  decide +kernel
def md_X6_whenDone : List (Nat × Instr × Nat) := [(0, .aload_n 0, 1), (1, .getfield 28, 3), (4, .aload_n 0, 1), (5, .getfield 24, 3), (8, .invokevirtual 45, 3), (11, .iconst 0, 1), (12, .istore_n 2, 1), (13, .iload_n 2, 1), (14, .sipush 300, 3), (17, .if_icmp .gt 45, 3), (20, .aload_n 0, 1), (21, .getfield 28, 3), (24, .iload_n 1, 1), (25, .invokevirtual 49, 3), (28, .iconst 2, 1), (29, .if_icmp .ne 5, 3), (32, .iload_n 2, 1), (33, .ireturn, 1), (34, .aload_n 0, 1), (35, .getfield 28, 3), (38, .iload_n 1, 1), (39, .invokevirtual 49, 3), (42, .iconst 1, 1), (43, .if_icmp .eq 5, 3), (46, .iconst (-1), 1), (47, .ireturn, 1), (48, .aload_n 0, 1), (49, .getfield 28, 3), (52, .iconst 1, 1), (53, .invokevirtual 53, 3), (56, .iinc 2 1, 3), (59, .goto (-46), 3), (62, .iconst (-1), 1), (63, .ireturn, 1)]
set_option maxRecDepth 20000 in
theorem me_X6_whenDone : zdecs cX6_whenDone md_X6_whenDone := by
  unfold zdecs md_X6_whenDone
  decide +kernel
def md_X6_soonest : List (Nat × Instr × Nat) := [(0, .aload_n 0, 1), (1, .getfield 36, 3), (4, .aload_n 1, 1), (5, .invokevirtual 45, 3), (8, .aload_n 0, 1), (9, .getfield 39, 3), (12, .aload_n 1, 1), (13, .invokevirtual 45, 3), (16, .aload_n 0, 1), (17, .getfield 39, 3), (20, .sipush 200, 3), (23, .invokevirtual 53, 3), (26, .iconst 0, 1), (27, .istore_n 3, 1), (28, .iload_n 3, 1), (29, .bipush 60, 2), (31, .if_icmp .gt 109, 3), (34, .aload_n 0, 1), (35, .getfield 28, 3), (38, .aload_n 0, 1), (39, .getfield 36, 3), (42, .invokevirtual 45, 3), (45, .aload_n 0, 1), (46, .getfield 28, 3), (49, .iload_n 2, 1), (50, .invokevirtual 57, 3), (53, .ifCond .ne 53, 3), (56, .aload_n 0, 1), (57, .getfield 28, 3), (60, .sipush 200, 3), (63, .invokevirtual 53, 3), (66, .aload_n 0, 1), (67, .getfield 28, 3), (70, .iconst 3, 1), (71, .invokevirtual 60, 3), (74, .aload_n 0, 1), (75, .getfield 39, 3), (78, .iconst 3, 1), (79, .invokevirtual 60, 3), (82, .iconst (-1), 1), (83, .ixor, 1), (84, .iand, 1), (85, .istore 4, 2), (87, .aload_n 0, 1), (88, .getfield 28, 3), (91, .iload_n 2, 1), (92, .invokevirtual 49, 3), (95, .iconst 2, 1), (96, .if_icmp .ne 10, 3), (99, .iload 4, 2), (101, .ifCond .ne 5, 3), (104, .iload_n 3, 1), (105, .ireturn, 1), (106, .aload_n 0, 1), (107, .getfield 36, 3), (110, .invokevirtual 63, 3), (113, .ifCond .ne 5, 3), (116, .iconst (-1), 1), (117, .ireturn, 1), (118, .aload_n 0, 1), (119, .getfield 36, 3), (122, .iconst 1, 1), (123, .invokevirtual 53, 3), (126, .aload_n 0, 1), (127, .getfield 39, 3), (130, .iconst 1, 1), (131, .invokevirtual 53, 3), (134, .iinc 3 1, 3), (137, .goto (-109), 3), (140, .iconst (-1), 1), (141, .ireturn, 1)]
set_option maxRecDepth 20000 in
theorem me_X6_soonest : zdecs cX6_soonest md_X6_soonest := by
  unfold zdecs md_X6_soonest
  decide +kernel
def md_X6_readRow : List (Nat × Instr × Nat) := [(0, .aload_n 1, 1), (1, .getfield 67, 3), (4, .iconst 1, 1), (5, .if_icmp .lt 11, 3), (8, .aload_n 1, 1), (9, .getfield 67, 3), (12, .iconst 3, 1), (13, .if_icmp .le 5, 3), (16, .iconst 0, 1), (17, .ireturn, 1), (18, .iconst 0, 1), (19, .istore_n 2, 1), (20, .iload_n 2, 1), (21, .aload_n 1, 1), (22, .getfield 67, 3), (25, .if_icmp .ge 100, 3), (28, .aload_n 1, 1), (29, .getfield 73, 3), (32, .iload_n 2, 1), (33, .iaload, 1), (34, .istore_n 3, 1), (35, .aload_n 0, 1), (36, .getfield 24, 3), (39, .iload_n 3, 1), (40, .invokevirtual 49, 3), (43, .ifCond .eq 5, 3), (46, .iconst 0, 1), (47, .ireturn, 1), (48, .iload_n 2, 1), (49, .istore 4, 2), (51, .iload 4, 2), (53, .ifCond .le 38, 3), (56, .aload_n 0, 1), (57, .getfield 11, 3), (60, .iload 4, 2), (62, .iconst 1, 1), (63, .isub, 1), (64, .iaload, 1), (65, .iload_n 3, 1), (66, .if_icmp .le 25, 3), (69, .aload_n 0, 1), (70, .getfield 11, 3), (73, .iload 4, 2), (75, .aload_n 0, 1), (76, .getfield 11, 3), (79, .iload 4, 2), (81, .iconst 1, 1), (82, .isub, 1), (83, .iaload, 1), (84, .iastore, 1), (85, .iinc 4 (-1), 3), (88, .goto (-37), 3), (91, .iload 4, 2), (93, .ifCond .le 18, 3), (96, .aload_n 0, 1), (97, .getfield 11, 3), (100, .iload 4, 2), (102, .iconst 1, 1), (103, .isub, 1), (104, .iaload, 1), (105, .iload_n 3, 1), (106, .if_icmp .ne 5, 3), (109, .iconst 0, 1), (110, .ireturn, 1), (111, .aload_n 0, 1), (112, .getfield 11, 3), (115, .iload 4, 2), (117, .iload_n 3, 1), (118, .iastore, 1), (119, .iinc 2 1, 3), (122, .goto (-102), 3), (125, .aload_n 0, 1), (126, .aload_n 1, 1), (127, .getfield 67, 3), (130, .putfield 76, 3), (133, .iconst 1, 1), (134, .ireturn, 1)]
set_option maxRecDepth 20000 in
theorem me_X6_readRow : zdecs cX6_readRow md_X6_readRow := by
  unfold zdecs md_X6_readRow
  decide +kernel
def md_X6_bestOrder : List (Nat × Instr × Nat) := [(0, .iconst (-1), 1), (1, .istore_n 1, 1), (2, .iconst 1, 1), (3, .istore_n 2, 1), (4, .iconst 0, 1), (5, .istore_n 3, 1), (6, .iload_n 3, 1), (7, .bipush 6, 2), (9, .if_icmp .ge 87, 3), (12, .iload_n 2, 1), (13, .ifCond .eq 83, 3), (16, .aload_n 0, 1), (17, .invokevirtual 79, 3), (20, .istore 4, 2), (22, .iload 4, 2), (24, .iconst (-1), 1), (25, .if_icmp .eq 53, 3), (28, .iload_n 1, 1), (29, .iconst (-1), 1), (30, .if_icmp .eq 9, 3), (33, .iload 4, 2), (35, .iload_n 1, 1), (36, .if_icmp .ge 42, 3), (39, .iload 4, 2), (41, .istore_n 1, 1), (42, .aload_n 0, 1), (43, .aload_n 0, 1), (44, .getfield 76, 3), (47, .putfield 83, 3), (50, .aload_n 0, 1), (51, .getfield 11, 3), (54, .iconst 0, 1), (55, .aload_n 0, 1), (56, .getfield 18, 3), (59, .iconst 0, 1), (60, .iconst 3, 1), (61, .invokestatic 86, 3), (64, .aload_n 0, 1), (65, .getfield 15, 3), (68, .iconst 0, 1), (69, .aload_n 0, 1), (70, .getfield 21, 3), (73, .iconst 0, 1), (74, .iconst 3, 1), (75, .invokestatic 86, 3), (78, .aload_n 0, 1), (79, .getfield 11, 3), (82, .aload_n 0, 1), (83, .getfield 76, 3), (86, .invokestatic 92, 3), (89, .istore_n 2, 1), (90, .iinc 3 1, 3), (93, .goto (-87), 3), (96, .iload_n 1, 1), (97, .ireturn, 1)]
set_option maxRecDepth 20000 in
theorem me_X6_bestOrder : zdecs cX6_bestOrder md_X6_bestOrder := by
  unfold zdecs md_X6_bestOrder
  decide +kernel
def md_X6_endOfRow : List (Nat × Instr × Nat) := [(0, .iconst 0, 1), (1, .istore_n 1, 1), (2, .iconst 0, 1), (3, .istore_n 2, 1), (4, .aload_n 0, 1), (5, .getfield 42, 3), (8, .aload_n 0, 1), (9, .getfield 24, 3), (12, .invokevirtual 45, 3), (15, .iconst 0, 1), (16, .istore_n 3, 1), (17, .iload_n 3, 1), (18, .aload_n 0, 1), (19, .getfield 76, 3), (22, .if_icmp .ge 84, 3), (25, .iload_n 3, 1), (26, .iconst 3, 1), (27, .if_icmp .ge 79, 3), (30, .aload_n 0, 1), (31, .aload_n 0, 1), (32, .getfield 42, 3), (35, .aload_n 0, 1), (36, .getfield 11, 3), (39, .iload_n 3, 1), (40, .iaload, 1), (41, .invokevirtual 96, 3), (44, .istore 4, 2), (46, .iload 4, 2), (48, .iconst (-1), 1), (49, .if_icmp .ne 5, 3), (52, .iconst (-1), 1), (53, .ireturn, 1), (54, .aload_n 0, 1), (55, .getfield 42, 3), (58, .iload 4, 2), (60, .invokevirtual 53, 3), (63, .aload_n 0, 1), (64, .getfield 42, 3), (67, .aload_n 0, 1), (68, .getfield 11, 3), (71, .iload_n 3, 1), (72, .iaload, 1), (73, .invokevirtual 57, 3), (76, .pop, 1), (77, .iload_n 1, 1), (78, .iload 4, 2), (80, .iadd, 1), (81, .istore_n 1, 1), (82, .aload_n 0, 1), (83, .getfield 15, 3), (86, .iload_n 3, 1), (87, .iload_n 1, 1), (88, .iastore, 1), (89, .iload_n 2, 1), (90, .iconst 1, 1), (91, .aload_n 0, 1), (92, .getfield 11, 3), (95, .iload_n 3, 1), (96, .iaload, 1), (97, .ishl, 1), (98, .ior, 1), (99, .istore_n 2, 1), (100, .iinc 3 1, 3), (103, .goto (-86), 3), (106, .iconst 0, 1), (107, .istore_n 3, 1), (108, .iload_n 3, 1), (109, .sipush 200, 3), (112, .if_icmp .gt 35, 3), (115, .aload_n 0, 1), (116, .getfield 42, 3), (119, .iconst 2, 1), (120, .invokevirtual 60, 3), (123, .iload_n 2, 1), (124, .iand, 1), (125, .iload_n 2, 1), (126, .if_icmp .ne 7, 3), (129, .iload_n 1, 1), (130, .iload_n 3, 1), (131, .iadd, 1), (132, .ireturn, 1), (133, .aload_n 0, 1), (134, .getfield 42, 3), (137, .iconst 1, 1), (138, .invokevirtual 53, 3), (141, .iinc 3 1, 3), (144, .goto (-36), 3), (147, .iconst (-1), 1), (148, .ireturn, 1)]
set_option maxRecDepth 20000 in
theorem me_X6_endOfRow : zdecs cX6_endOfRow md_X6_endOfRow := by
  unfold zdecs md_X6_endOfRow
  decide +kernel
def md_X7_init : List (Nat × Instr × Nat) := [(0, .aload_n 0, 1), (1, .invokespecial 5, 3), (4, .aload_n 0, 1), (5, .iconst 5, 1), (6, .putfield 11, 3), (9, .aload_n 0, 1), (10, .bipush 6, 2), (12, .newarray .int, 2), (14, .putfield 15, 3), (17, .aload_n 0, 1), (18, .bipush 6, 2), (20, .newarray .int, 2), (22, .putfield 19, 3), (25, .aload_n 0, 1), (26, .bipush 8, 2), (28, .newarray .int, 2), (30, .putfield 22, 3), (33, .aload_n 0, 1), (34, .bipush 19, 2), (36, .newarray .long, 2), (38, .putfield 25, 3), (41, .aload_n 0, 1), (42, .bipush 30, 2), (44, .newarray .int, 2), (46, .putfield 29, 3), (49, .return_, 1)]
set_option maxRecDepth 20000 in
theorem me_X7_init : zdecs cX7_init md_X7_init := by
  unfold zdecs md_X7_init
  decide +kernel
def md_X7_hasBath : List (Nat × Instr × Nat) := [(0, .iload_n 1, 1), (1, .ifCond .lt 15, 3), (4, .iload_n 1, 1), (5, .aload_n 0, 1), (6, .getfield 32, 3), (9, .if_icmp .ge 7, 3), (12, .iconst 1, 1), (13, .goto 4, 3), (16, .iconst 0, 1), (17, .ireturn, 1)]
set_option maxRecDepth 20000 in
theorem me_X7_hasBath : zdecs cX7_hasBath md_X7_hasBath := by
  unfold zdecs md_X7_hasBath
  decide +kernel
def md_X7_hasPaper : List (Nat × Instr × Nat) := [(0, .iload_n 1, 1), (1, .ifCond .lt 15, 3), (4, .iload_n 1, 1), (5, .aload_n 0, 1), (6, .getfield 35, 3), (9, .if_icmp .ge 7, 3), (12, .iconst 1, 1), (13, .goto 4, 3), (16, .iconst 0, 1), (17, .ireturn, 1)]
set_option maxRecDepth 20000 in
theorem me_X7_hasPaper : zdecs cX7_hasPaper md_X7_hasPaper := by
  unfold zdecs md_X7_hasPaper
  decide +kernel
def md_X7_hasSheet : List (Nat × Instr × Nat) := [(0, .iload_n 1, 1), (1, .ifCond .lt 15, 3), (4, .iload_n 1, 1), (5, .aload_n 0, 1), (6, .getfield 38, 3), (9, .if_icmp .ge 7, 3), (12, .iconst 1, 1), (13, .goto 4, 3), (16, .iconst 0, 1), (17, .ireturn, 1)]
set_option maxRecDepth 20000 in
theorem me_X7_hasSheet : zdecs cX7_hasSheet md_X7_hasSheet := by
  unfold zdecs md_X7_hasSheet
  decide +kernel
def md_X7_asked : List (Nat × Instr × Nat) := [(0, .iload_n 1, 1), (1, .ifCond .lt 37, 3), (4, .iload_n 1, 1), (5, .aload_n 0, 1), (6, .getfield 35, 3), (9, .if_icmp .ge 29, 3), (12, .iload_n 2, 1), (13, .ifCond .lt 25, 3), (16, .iload_n 2, 1), (17, .aload_n 0, 1), (18, .getfield 32, 3), (21, .if_icmp .ge 17, 3), (24, .aload_n 0, 1), (25, .getfield 29, 3), (28, .iload_n 1, 1), (29, .bipush 6, 2), (31, .imul, 1), (32, .iload_n 2, 1), (33, .iadd, 1), (34, .iaload, 1), (35, .goto 4, 3), (38, .iconst 0, 1), (39, .ireturn, 1)]
set_option maxRecDepth 20000 in
theorem me_X7_asked : zdecs cX7_asked md_X7_asked := by
  unfold zdecs md_X7_asked
  decide +kernel
def md_X7_bathAfter : List (Nat × Instr × Nat) := [(0, .aload_n 0, 1), (1, .iload_n 1, 1), (2, .invokevirtual 41, 3), (5, .ifCond .eq 8, 3), (8, .iload_n 2, 1), (9, .iconst (-1), 1), (10, .if_icmp .ge 5, 3), (13, .iconst (-1), 1), (14, .ireturn, 1), (15, .iload_n 2, 1), (16, .iconst 1, 1), (17, .iadd, 1), (18, .istore_n 3, 1), (19, .iload_n 3, 1), (20, .aload_n 0, 1), (21, .getfield 32, 3), (24, .if_icmp .ge 30, 3), (27, .aload_n 0, 1), (28, .getfield 29, 3), (31, .aload_n 0, 1), (32, .getfield 22, 3), (35, .iload_n 1, 1), (36, .iaload, 1), (37, .bipush 6, 2), (39, .imul, 1), (40, .iload_n 3, 1), (41, .iadd, 1), (42, .iaload, 1), (43, .ifCond .le 5, 3), (46, .iload_n 3, 1), (47, .ireturn, 1), (48, .iinc 3 1, 3), (51, .goto (-32), 3), (54, .iconst (-1), 1), (55, .ireturn, 1)]
set_option maxRecDepth 20000 in
theorem me_X7_bathAfter : zdecs cX7_bathAfter md_X7_bathAfter := by
  unfold zdecs md_X7_bathAfter
  decide +kernel
def md_X7_copyFrom : List (Nat × Instr × Nat) := [(0, .aload_n 0, 1), (1, .aload_n 1, 1), (2, .getfield 32, 3), (5, .putfield 32, 3), (8, .aload_n 0, 1), (9, .aload_n 1, 1), (10, .getfield 35, 3), (13, .putfield 35, 3), (16, .aload_n 0, 1), (17, .aload_n 1, 1), (18, .getfield 38, 3), (21, .putfield 38, 3), (24, .aload_n 0, 1), (25, .aload_n 1, 1), (26, .getfield 45, 3), (29, .putfield 45, 3), (32, .aload_n 0, 1), (33, .aload_n 1, 1), (34, .getfield 48, 3), (37, .putfield 48, 3), (40, .aload_n 0, 1), (41, .aload_n 1, 1), (42, .getfield 11, 3), (45, .putfield 11, 3), (48, .aload_n 1, 1), (49, .getfield 15, 3), (52, .iconst 0, 1), (53, .aload_n 0, 1), (54, .getfield 15, 3), (57, .iconst 0, 1), (58, .bipush 6, 2), (60, .invokestatic 51, 3), (63, .aload_n 1, 1), (64, .getfield 19, 3), (67, .iconst 0, 1), (68, .aload_n 0, 1), (69, .getfield 19, 3), (72, .iconst 0, 1), (73, .bipush 6, 2), (75, .invokestatic 51, 3), (78, .aload_n 1, 1), (79, .getfield 22, 3), (82, .iconst 0, 1), (83, .aload_n 0, 1), (84, .getfield 22, 3), (87, .iconst 0, 1), (88, .bipush 8, 2), (90, .invokestatic 51, 3), (93, .aload_n 1, 1), (94, .getfield 25, 3), (97, .iconst 0, 1), (98, .aload_n 0, 1), (99, .getfield 25, 3), (102, .iconst 0, 1), (103, .bipush 19, 2), (105, .invokestatic 51, 3), (108, .aload_n 1, 1), (109, .getfield 29, 3), (112, .iconst 0, 1), (113, .aload_n 0, 1), (114, .getfield 29, 3), (117, .iconst 0, 1), (118, .bipush 30, 2), (120, .invokestatic 51, 3), (123, .return_, 1)]
set_option maxRecDepth 20000 in
theorem me_X7_copyFrom : zdecs cX7_copyFrom md_X7_copyFrom := by
  unfold zdecs md_X7_copyFrom
  decide +kernel
def md_X7_wipe : List (Nat × Instr × Nat) := [(0, .aload_n 0, 1), (1, .iconst 0, 1), (2, .putfield 32, 3), (5, .aload_n 0, 1), (6, .iconst 0, 1), (7, .putfield 35, 3), (10, .aload_n 0, 1), (11, .iconst 0, 1), (12, .putfield 38, 3), (15, .aload_n 0, 1), (16, .iconst 0, 1), (17, .putfield 45, 3), (20, .aload_n 0, 1), (21, .iconst 0, 1), (22, .putfield 48, 3), (25, .aload_n 0, 1), (26, .iconst 5, 1), (27, .putfield 11, 3), (30, .aload_n 0, 1), (31, .iconst 0, 1), (32, .putfield 57, 3), (35, .return_, 1)]
set_option maxRecDepth 20000 in
theorem me_X7_wipe : zdecs cX7_wipe md_X7_wipe := by
  unfold zdecs md_X7_wipe
  decide +kernel
def md_X7_readLines : List (Nat × Instr × Nat) := [(0, .aload_n 0, 1), (1, .invokevirtual 60, 3), (4, .aload_n 1, 1), (5, .sipush 900, 3), (8, .invokevirtual 63, 3), (11, .iconst 0, 1), (12, .istore_n 2, 1), (13, .iload_n 2, 1), (14, .sipush 900, 3), (17, .if_icmp .gt 37, 3), (20, .aload_n 1, 1), (21, .invokevirtual 69, 3), (24, .ifCond .eq 5, 3), (27, .iload_n 2, 1), (28, .ireturn, 1), (29, .aload_n 0, 1), (30, .aload_n 1, 1), (31, .invokevirtual 73, 3), (34, .ifCond .eq 12, 3), (37, .aload_n 1, 1), (38, .bipush 59, 2), (40, .invokevirtual 77, 3), (43, .ifCond .ne 5, 3), (46, .iconst (-1), 1), (47, .ireturn, 1), (48, .iinc 2 1, 3), (51, .goto (-38), 3), (54, .iconst (-1), 1), (55, .ireturn, 1)]
set_option maxRecDepth 20000 in
theorem me_X7_readLines : zdecs cX7_readLines md_X7_readLines := by
  unfold zdecs md_X7_readLines
  decide +kernel
def md_X7_readLine : List (Nat × Instr × Nat) := [(0, .aload_n 1, 1), (1, .getfield 80, 3), (4, .tableswitch 64 0 5 #[40, 46, 52, 58, 58, 58], 40), (44, .aload_n 0, 1), (45, .aload_n 1, 1), (46, .invokevirtual 83, 3), (49, .ireturn, 1), (50, .aload_n 0, 1), (51, .aload_n 1, 1), (52, .invokevirtual 86, 3), (55, .ireturn, 1), (56, .aload_n 0, 1), (57, .aload_n 1, 1), (58, .invokevirtual 89, 3), (61, .ireturn, 1), (62, .aload_n 0, 1), (63, .aload_n 1, 1), (64, .invokevirtual 92, 3), (67, .ireturn, 1), (68, .aload_n 1, 1), (69, .iconst 1, 1), (70, .invokevirtual 95, 3), (73, .ireturn, 1)]
set_option maxRecDepth 20000 in
theorem me_X7_readLine : zdecs cX7_readLine md_X7_readLine := by
  unfold zdecs md_X7_readLine
  decide +kernel
def md_X7_readBath : List (Nat × Instr × Nat) := [(0, .aload_n 0, 1), (1, .getfield 35, 3), (4, .ifCond .le 9, 3), (7, .aload_n 1, 1), (8, .iconst 3, 1), (9, .invokevirtual 95, 3), (12, .ireturn, 1), (13, .aload_n 0, 1), (14, .getfield 32, 3), (17, .bipush 6, 2), (19, .if_icmp .lt 9, 3), (22, .aload_n 1, 1), (23, .iconst 4, 1), (24, .invokevirtual 95, 3), (27, .ireturn, 1), (28, .aload_n 1, 1), (29, .invokevirtual 98, 3), (32, .aload_n 0, 1), (33, .aload_n 1, 1), (34, .iconst 0, 1), (35, .aload_n 0, 1), (36, .getfield 32, 3), (39, .iadd, 1), (40, .invokevirtual 101, 3), (43, .ifCond .ne 5, 3), (46, .iconst 0, 1), (47, .ireturn, 1), (48, .aload_n 1, 1), (49, .iconst 1, 1), (50, .iconst 4, 1), (51, .invokevirtual 105, 3), (54, .istore_n 2, 1), (55, .iload_n 2, 1), (56, .iconst (-1), 1), (57, .if_icmp .ne 7, 3), (60, .iconst (-1), 1), (61, .goto 10, 3), (64, .aload_n 1, 1), (65, .iconst 1, 1), (66, .bipush 99, 2), (68, .invokevirtual 105, 3), (71, .istore_n 3, 1), (72, .iload_n 3, 1), (73, .iconst (-1), 1), (74, .if_icmp .ne 5, 3), (77, .iconst 0, 1), (78, .ireturn, 1), (79, .aload_n 0, 1), (80, .getfield 15, 3), (83, .aload_n 0, 1), (84, .getfield 32, 3), (87, .iload_n 2, 1), (88, .iastore, 1), (89, .aload_n 0, 1), (90, .getfield 19, 3), (93, .aload_n 0, 1), (94, .getfield 32, 3), (97, .iload_n 3, 1), (98, .iastore, 1), (99, .aload_n 0, 1), (100, .dup, 1), (101, .getfield 32, 3), (104, .iconst 1, 1), (105, .iadd, 1), (106, .putfield 32, 3), (109, .iconst 1, 1), (110, .ireturn, 1)]
set_option maxRecDepth 20000 in
theorem me_X7_readBath : zdecs cX7_readBath md_X7_readBath := by
  unfold zdecs md_X7_readBath
  decide +kernel
def md_X7_readPaper : List (Nat × Instr × Nat) := [(0, .aload_n 0, 1), (1, .getfield 35, 3), (4, .iconst 5, 1), (5, .if_icmp .lt 9, 3), (8, .aload_n 1, 1), (9, .iconst 4, 1), (10, .invokevirtual 95, 3), (13, .ireturn, 1), (14, .aload_n 1, 1), (15, .invokevirtual 98, 3), (18, .aload_n 0, 1), (19, .aload_n 1, 1), (20, .bipush 6, 2), (22, .aload_n 0, 1), (23, .getfield 35, 3), (26, .iadd, 1), (27, .invokevirtual 101, 3), (30, .ifCond .ne 5, 3), (33, .iconst 0, 1), (34, .ireturn, 1), (35, .iconst 0, 1), (36, .istore_n 2, 1), (37, .iload_n 2, 1), (38, .aload_n 0, 1), (39, .getfield 32, 3), (42, .if_icmp .ge 39, 3), (45, .aload_n 1, 1), (46, .iconst 0, 1), (47, .bipush 30, 2), (49, .invokevirtual 105, 3), (52, .istore_n 3, 1), (53, .iload_n 3, 1), (54, .iconst (-1), 1), (55, .if_icmp .ne 5, 3), (58, .iconst 0, 1), (59, .ireturn, 1), (60, .aload_n 0, 1), (61, .getfield 29, 3), (64, .aload_n 0, 1), (65, .getfield 35, 3), (68, .bipush 6, 2), (70, .imul, 1), (71, .iload_n 2, 1), (72, .iadd, 1), (73, .iload_n 3, 1), (74, .iastore, 1), (75, .iinc 2 1, 3), (78, .goto (-41), 3), (81, .aload_n 0, 1), (82, .dup, 1), (83, .getfield 35, 3), (86, .iconst 1, 1), (87, .iadd, 1), (88, .putfield 35, 3), (91, .iconst 1, 1), (92, .ireturn, 1)]
set_option maxRecDepth 20000 in
theorem me_X7_readPaper : zdecs cX7_readPaper md_X7_readPaper := by
  unfold zdecs md_X7_readPaper
  decide +kernel
def md_X7_readSheet : List (Nat × Instr × Nat) := [(0, .aload_n 0, 1), (1, .getfield 38, 3), (4, .bipush 8, 2), (6, .if_icmp .lt 9, 3), (9, .aload_n 1, 1), (10, .iconst 4, 1), (11, .invokevirtual 95, 3), (14, .ireturn, 1), (15, .aload_n 1, 1), (16, .invokevirtual 98, 3), (19, .aload_n 0, 1), (20, .aload_n 1, 1), (21, .bipush 11, 2), (23, .aload_n 0, 1), (24, .getfield 38, 3), (27, .iadd, 1), (28, .invokevirtual 101, 3), (31, .ifCond .ne 5, 3), (34, .iconst 0, 1), (35, .ireturn, 1), (36, .aload_n 0, 1), (37, .aload_n 1, 1), (38, .bipush 6, 2), (40, .aload_n 0, 1), (41, .getfield 35, 3), (44, .invokevirtual 109, 3), (47, .istore_n 2, 1), (48, .iload_n 2, 1), (49, .iconst (-1), 1), (50, .if_icmp .ne 5, 3), (53, .iconst 0, 1), (54, .ireturn, 1), (55, .aload_n 0, 1), (56, .getfield 22, 3), (59, .aload_n 0, 1), (60, .getfield 38, 3), (63, .iload_n 2, 1), (64, .iastore, 1), (65, .aload_n 0, 1), (66, .dup, 1), (67, .getfield 38, 3), (70, .iconst 1, 1), (71, .iadd, 1), (72, .putfield 38, 3), (75, .iconst 1, 1), (76, .ireturn, 1)]
set_option maxRecDepth 20000 in
theorem me_X7_readSheet : zdecs cX7_readSheet md_X7_readSheet := by
  unfold zdecs md_X7_readSheet
  decide +kernel
def md_X7_readOnce : List (Nat × Instr × Nat) := [(0, .aload_n 1, 1), (1, .getfield 80, 3), (4, .istore_n 2, 1), (5, .aload_n 0, 1), (6, .getfield 57, 3), (9, .iload_n 2, 1), (10, .ishr, 1), (11, .iconst 1, 1), (12, .iand, 1), (13, .ifCond .eq 9, 3), (16, .aload_n 1, 1), (17, .iconst 3, 1), (18, .invokevirtual 95, 3), (21, .ireturn, 1), (22, .aload_n 0, 1), (23, .dup, 1), (24, .getfield 57, 3), (27, .iconst 1, 1), (28, .iload_n 2, 1), (29, .ishl, 1), (30, .ior, 1), (31, .putfield 57, 3), (34, .aload_n 1, 1), (35, .invokevirtual 98, 3), (38, .aload_n 1, 1), (39, .iconst 0, 1), (40, .iload_n 2, 1), (41, .iconst 5, 1), (42, .if_icmp .ne 8, 3), (45, .bipush 99, 2), (47, .goto 5, 3), (50, .bipush 9, 2), (52, .invokevirtual 105, 3), (55, .istore_n 3, 1), (56, .iload_n 3, 1), (57, .iconst (-1), 1), (58, .if_icmp .ne 5, 3), (61, .iconst 0, 1), (62, .ireturn, 1), (63, .iload_n 2, 1), (64, .iconst 3, 1), (65, .if_icmp .ne 11, 3), (68, .aload_n 0, 1), (69, .iload_n 3, 1), (70, .putfield 45, 3), (73, .goto 21, 3), (76, .iload_n 2, 1), (77, .iconst 4, 1), (78, .if_icmp .ne 11, 3), (81, .aload_n 0, 1), (82, .iload_n 3, 1), (83, .putfield 48, 3), (86, .goto 8, 3), (89, .aload_n 0, 1), (90, .iload_n 3, 1), (91, .putfield 11, 3), (94, .iconst 1, 1), (95, .ireturn, 1)]
set_option maxRecDepth 20000 in
theorem me_X7_readOnce : zdecs cX7_readOnce md_X7_readOnce := by
  unfold zdecs md_X7_readOnce
  decide +kernel
def md_X7_passNewName : List (Nat × Instr × Nat) := [(0, .aload_n 1, 1), (1, .getfield 113, 3), (4, .iconst 1, 1), (5, .if_icmp .eq 9, 3), (8, .aload_n 1, 1), (9, .iconst 1, 1), (10, .invokevirtual 95, 3), (13, .ireturn, 1), (14, .aload_n 1, 1), (15, .getfield 116, 3), (18, .lstore_n 3, 1), (19, .aload_n 0, 1), (20, .lload_n 3, 1), (21, .iconst 0, 1), (22, .aload_n 0, 1), (23, .getfield 32, 3), (26, .invokevirtual 120, 3), (29, .iconst (-1), 1), (30, .if_icmp .ne 33, 3), (33, .aload_n 0, 1), (34, .lload_n 3, 1), (35, .bipush 6, 2), (37, .aload_n 0, 1), (38, .getfield 35, 3), (41, .invokevirtual 120, 3), (44, .iconst (-1), 1), (45, .if_icmp .ne 18, 3), (48, .aload_n 0, 1), (49, .lload_n 3, 1), (50, .bipush 11, 2), (52, .aload_n 0, 1), (53, .getfield 38, 3), (56, .invokevirtual 120, 3), (59, .iconst (-1), 1), (60, .if_icmp .eq 9, 3), (63, .aload_n 1, 1), (64, .iconst 3, 1), (65, .invokevirtual 95, 3), (68, .ireturn, 1), (69, .iload_n 2, 1), (70, .ifCond .lt 16, 3), (73, .iload_n 2, 1), (74, .bipush 19, 2), (76, .if_icmp .ge 10, 3), (79, .aload_n 0, 1), (80, .getfield 25, 3), (83, .iload_n 2, 1), (84, .lload_n 3, 1), (85, .lastore, 1), (86, .aload_n 1, 1), (87, .invokevirtual 98, 3), (90, .iconst 1, 1), (91, .ireturn, 1)]
set_option maxRecDepth 20000 in
theorem me_X7_passNewName : zdecs cX7_passNewName md_X7_passNewName := by
  unfold zdecs md_X7_passNewName
  decide +kernel
def md_X7_passKnown : List (Nat × Instr × Nat) := [(0, .aload_n 1, 1), (1, .getfield 113, 3), (4, .iconst 1, 1), (5, .if_icmp .eq 11, 3), (8, .aload_n 1, 1), (9, .iconst 1, 1), (10, .invokevirtual 95, 3), (13, .pop, 1), (14, .iconst (-1), 1), (15, .ireturn, 1), (16, .aload_n 0, 1), (17, .aload_n 1, 1), (18, .getfield 116, 3), (21, .iload_n 2, 1), (22, .iload_n 3, 1), (23, .invokevirtual 120, 3), (26, .istore 4, 2), (28, .iload 4, 2), (30, .iconst (-1), 1), (31, .if_icmp .ne 11, 3), (34, .aload_n 1, 1), (35, .iconst 3, 1), (36, .invokevirtual 95, 3), (39, .pop, 1), (40, .iconst (-1), 1), (41, .ireturn, 1), (42, .aload_n 1, 1), (43, .invokevirtual 98, 3), (46, .iload 4, 2), (48, .ireturn, 1)]
set_option maxRecDepth 20000 in
theorem me_X7_passKnown : zdecs cX7_passKnown md_X7_passKnown := by
  unfold zdecs md_X7_passKnown
  decide +kernel
def md_X7_numberOf : List (Nat × Instr × Nat) := [(0, .iconst 0, 1), (1, .istore 5, 2), (3, .iload 5, 2), (5, .iload 4, 2), (7, .if_icmp .ge 35, 3), (10, .iload_n 3, 1), (11, .iload 5, 2), (13, .iadd, 1), (14, .bipush 19, 2), (16, .if_icmp .ge 26, 3), (19, .aload_n 0, 1), (20, .getfield 25, 3), (23, .iload_n 3, 1), (24, .iload 5, 2), (26, .iadd, 1), (27, .laload, 1), (28, .lload_n 1, 1), (29, .lcmp, 1), (30, .ifCond .ne 6, 3), (33, .iload 5, 2), (35, .ireturn, 1), (36, .iinc 5 1, 3), (39, .goto (-36), 3), (42, .iconst (-1), 1), (43, .ireturn, 1)]
set_option maxRecDepth 20000 in
theorem me_X7_numberOf : zdecs cX7_numberOf md_X7_numberOf := by
  unfold zdecs md_X7_numberOf
  decide +kernel
def md_X8_init : List (Nat × Instr × Nat) := [(0, .aload_n 0, 1), (1, .invokespecial 5, 3), (4, .aload_n 0, 1), (5, .bipush 40, 2), (7, .newarray .int, 2), (9, .putfield 11, 3), (12, .aload_n 0, 1), (13, .bipush 40, 2), (15, .newarray .int, 2), (17, .putfield 15, 3), (20, .aload_n 0, 1), (21, .bipush 40, 2), (23, .newarray .int, 2), (25, .putfield 18, 3), (28, .aload_n 0, 1), (29, .bipush 40, 2), (31, .newarray .int, 2), (33, .putfield 21, 3), (36, .return_, 1)]
set_option maxRecDepth 20000 in
theorem me_X8_init : zdecs cX8_init md_X8_init := by
  unfold zdecs md_X8_init
  decide +kernel
def md_X8_wipe : List (Nat × Instr × Nat) := [(0, .aload_n 0, 1), (1, .iconst 0, 1), (2, .putfield 24, 3), (5, .aload_n 0, 1), (6, .iconst 0, 1), (7, .putfield 28, 3), (10, .return_, 1)]
set_option maxRecDepth 20000 in
theorem me_X8_wipe : zdecs cX8_wipe md_X8_wipe := by
  unfold zdecs md_X8_wipe
  decide +kernel
def md_X8_copyFrom : List (Nat × Instr × Nat) := [(0, .aload_n 0, 1), (1, .aload_n 1, 1), (2, .getfield 24, 3), (5, .putfield 24, 3), (8, .aload_n 0, 1), (9, .aload_n 1, 1), (10, .getfield 28, 3), (13, .putfield 28, 3), (16, .aload_n 1, 1), (17, .getfield 11, 3), (20, .iconst 0, 1), (21, .aload_n 0, 1), (22, .getfield 11, 3), (25, .iconst 0, 1), (26, .bipush 40, 2), (28, .invokestatic 31, 3), (31, .aload_n 1, 1), (32, .getfield 15, 3), (35, .iconst 0, 1), (36, .aload_n 0, 1), (37, .getfield 15, 3), (40, .iconst 0, 1), (41, .bipush 40, 2), (43, .invokestatic 31, 3), (46, .aload_n 1, 1), (47, .getfield 18, 3), (50, .iconst 0, 1), (51, .aload_n 0, 1), (52, .getfield 18, 3), (55, .iconst 0, 1), (56, .bipush 40, 2), (58, .invokestatic 31, 3), (61, .return_, 1)]
set_option maxRecDepth 20000 in
theorem me_X8_copyFrom : zdecs cX8_copyFrom md_X8_copyFrom := by
  unfold zdecs md_X8_copyFrom
  decide +kernel
def md_X8_readAll : List (Nat × Instr × Nat) := [(0, .aload_n 0, 1), (1, .invokevirtual 37, 3), (4, .aload_n 1, 1), (5, .sipush 200, 3), (8, .invokevirtual 40, 3), (11, .aload_n 0, 1), (12, .aload_n 1, 1), (13, .aload_n 2, 1), (14, .iconst 1, 1), (15, .invokevirtual 46, 3), (18, .ifCond .ne 5, 3), (21, .iconst 0, 1), (22, .ireturn, 1), (23, .aload_n 1, 1), (24, .invokevirtual 50, 3), (27, .ifCond .ne 11, 3), (30, .aload_n 1, 1), (31, .iconst 1, 1), (32, .invokevirtual 54, 3), (35, .ifCond .eq 7, 3), (38, .iconst 1, 1), (39, .goto 4, 3), (42, .iconst 0, 1), (43, .ireturn, 1)]
set_option maxRecDepth 20000 in
theorem me_X8_readAll : zdecs cX8_readAll md_X8_readAll := by
  unfold zdecs md_X8_readAll
  decide +kernel
def md_X8_readCond : List (Nat × Instr × Nat) := [(0, .iconst 0, 1), (1, .istore 4, 2), (3, .aload_n 0, 1), (4, .aload_n 1, 1), (5, .aload_n 2, 1), (6, .iload_n 3, 1), (7, .invokevirtual 58, 3), (10, .ifCond .ne 5, 3), (13, .iconst 0, 1), (14, .ireturn, 1), (15, .iconst 0, 1), (16, .istore 5, 2), (18, .iload 5, 2), (20, .bipush 20, 2), (22, .if_icmp .gt 96, 3), (25, .aload_n 1, 1), (26, .getfield 61, 3), (29, .bipush 12, 2), (31, .if_icmp .ne 7, 3), (34, .iconst 1, 1), (35, .goto 4, 3), (38, .iconst 0, 1), (39, .istore 6, 2), (41, .iload 4, 2), (43, .ifCond .eq 17, 3), (46, .iload 6, 2), (48, .ifCond .ne 12, 3), (51, .aload_n 0, 1), (52, .bipush 11, 2), (54, .iconst 0, 1), (55, .iconst 0, 1), (56, .invokevirtual 64, 3), (59, .pop, 1), (60, .iload 6, 2), (62, .ifCond .ne 14, 3), (65, .aload_n 1, 1), (66, .getfield 61, 3), (69, .bipush 11, 2), (71, .if_icmp .eq 5, 3), (74, .iconst 1, 1), (75, .ireturn, 1), (76, .aload_n 1, 1), (77, .invokevirtual 68, 3), (80, .aload_n 0, 1), (81, .aload_n 1, 1), (82, .aload_n 2, 1), (83, .iload_n 3, 1), (84, .invokevirtual 58, 3), (87, .ifCond .ne 5, 3), (90, .iconst 0, 1), (91, .ireturn, 1), (92, .iload 6, 2), (94, .ifCond .eq 15, 3), (97, .aload_n 0, 1), (98, .bipush 12, 2), (100, .iconst 0, 1), (101, .iconst 0, 1), (102, .invokevirtual 64, 3), (105, .pop, 1), (106, .goto 6, 3), (109, .iconst 1, 1), (110, .istore 4, 2), (112, .iinc 5 1, 3), (115, .goto (-97), 3), (118, .aload_n 1, 1), (119, .iconst 4, 1), (120, .invokevirtual 54, 3), (123, .ireturn, 1)]
set_option maxRecDepth 20000 in
theorem me_X8_readCond : zdecs cX8_readCond md_X8_readCond := by
  unfold zdecs md_X8_readCond
  decide +kernel
def md_X8_readOne : List (Nat × Instr × Nat) := [(0, .aload_n 1, 1), (1, .bipush 40, 2), (3, .invokevirtual 71, 3), (6, .istore 4, 2), (8, .iload 4, 2), (10, .ifCond .ne 18, 3), (13, .aload_n 1, 1), (14, .getfield 61, 3), (17, .bipush 13, 2), (19, .if_icmp .ge 9, 3), (22, .aload_n 1, 1), (23, .iconst 1, 1), (24, .invokevirtual 54, 3), (27, .ireturn, 1), (28, .aload_n 0, 1), (29, .getfield 24, 3), (32, .bipush 20, 2), (34, .if_icmp .ge 9, 3), (37, .iload_n 3, 1), (38, .bipush 8, 2), (40, .if_icmp .le 9, 3), (43, .aload_n 1, 1), (44, .iconst 4, 1), (45, .invokevirtual 54, 3), (48, .ireturn, 1), (49, .aload_n 0, 1), (50, .dup, 1), (51, .getfield 24, 3), (54, .iconst 1, 1), (55, .iadd, 1), (56, .putfield 24, 3), (59, .aload_n 1, 1), (60, .getfield 61, 3), (63, .istore 5, 2), (65, .aload_n 1, 1), (66, .invokevirtual 68, 3), (69, .iload 4, 2), (71, .ifCond .eq 30, 3), (74, .aload_n 0, 1), (75, .aload_n 1, 1), (76, .aload_n 2, 1), (77, .iload_n 3, 1), (78, .iconst 1, 1), (79, .iadd, 1), (80, .invokevirtual 46, 3), (83, .ifCond .eq 16, 3), (86, .aload_n 1, 1), (87, .bipush 41, 2), (89, .invokevirtual 74, 3), (92, .ifCond .eq 7, 3), (95, .iconst 1, 1), (96, .goto 4, 3), (99, .iconst 0, 1), (100, .ireturn, 1), (101, .iload 5, 2), (103, .bipush 13, 2), (105, .if_icmp .ne 32, 3), (108, .aload_n 0, 1), (109, .aload_n 1, 1), (110, .aload_n 2, 1), (111, .iload_n 3, 1), (112, .iconst 1, 1), (113, .iadd, 1), (114, .invokevirtual 58, 3), (117, .ifCond .eq 18, 3), (120, .aload_n 0, 1), (121, .bipush 13, 2), (123, .iconst 0, 1), (124, .iconst 0, 1), (125, .invokevirtual 64, 3), (128, .ifCond .eq 7, 3), (131, .iconst 1, 1), (132, .goto 4, 3), (135, .iconst 0, 1), (136, .ireturn, 1), (137, .aload_n 0, 1), (138, .aload_n 1, 1), (139, .aload_n 2, 1), (140, .iload 5, 2), (142, .invokevirtual 77, 3), (145, .ireturn, 1)]
set_option maxRecDepth 20000 in
theorem me_X8_readOne : zdecs cX8_readOne md_X8_readOne := by
  unfold zdecs md_X8_readOne
  decide +kernel
def md_X8_readSaying : List (Nat × Instr × Nat) := [(0, .iconst 0, 1), (1, .istore 4, 2), (3, .iconst 0, 1), (4, .istore 5, 2), (6, .iload_n 3, 1), (7, .bipush 18, 2), (9, .if_icmp .ne 18, 3), (12, .aload_n 2, 1), (13, .aload_n 1, 1), (14, .iconst 0, 1), (15, .aload_n 2, 1), (16, .getfield 82, 3), (19, .invokevirtual 85, 3), (22, .istore 4, 2), (24, .goto 57, 3), (27, .iload_n 3, 1), (28, .bipush 19, 2), (30, .if_icmp .ne 19, 3), (33, .aload_n 2, 1), (34, .aload_n 1, 1), (35, .bipush 6, 2), (37, .aload_n 2, 1), (38, .getfield 89, 3), (41, .invokevirtual 85, 3), (44, .istore 4, 2), (46, .goto 35, 3), (49, .iload_n 3, 1), (50, .bipush 20, 2), (52, .if_icmp .lt 29, 3), (55, .aload_n 1, 1), (56, .invokevirtual 92, 3), (59, .istore 4, 2), (61, .iload 4, 2), (63, .iconst (-1), 1), (64, .if_icmp .ne 7, 3), (67, .iconst (-1), 1), (68, .goto 11, 3), (71, .aload_n 1, 1), (72, .iconst 0, 1), (73, .sipush 999, 3), (76, .invokevirtual 96, 3), (79, .istore 5, 2), (81, .iload 4, 2), (83, .iconst (-1), 1), (84, .if_icmp .eq 25, 3), (87, .iload 5, 2), (89, .iconst (-1), 1), (90, .if_icmp .eq 19, 3), (93, .aload_n 0, 1), (94, .iload_n 3, 1), (95, .iload 4, 2), (97, .iload 5, 2), (99, .invokevirtual 64, 3), (102, .ifCond .eq 7, 3), (105, .iconst 1, 1), (106, .goto 4, 3), (109, .iconst 0, 1), (110, .ireturn, 1)]
set_option maxRecDepth 20000 in
theorem me_X8_readSaying : zdecs cX8_readSaying md_X8_readSaying := by
  unfold zdecs md_X8_readSaying
  decide +kernel
def md_X8_addStep : List (Nat × Instr × Nat) := [(0, .aload_n 0, 1), (1, .getfield 28, 3), (4, .bipush 40, 2), (6, .if_icmp .lt 5, 3), (9, .iconst 0, 1), (10, .ireturn, 1), (11, .aload_n 0, 1), (12, .getfield 11, 3), (15, .aload_n 0, 1), (16, .getfield 28, 3), (19, .iload_n 1, 1), (20, .iastore, 1), (21, .aload_n 0, 1), (22, .getfield 15, 3), (25, .aload_n 0, 1), (26, .getfield 28, 3), (29, .iload_n 2, 1), (30, .iastore, 1), (31, .aload_n 0, 1), (32, .getfield 18, 3), (35, .aload_n 0, 1), (36, .getfield 28, 3), (39, .iload_n 3, 1), (40, .iastore, 1), (41, .aload_n 0, 1), (42, .dup, 1), (43, .getfield 28, 3), (46, .iconst 1, 1), (47, .iadd, 1), (48, .putfield 28, 3), (51, .iconst 1, 1), (52, .ireturn, 1)]
set_option maxRecDepth 20000 in
theorem me_X8_addStep : zdecs cX8_addStep md_X8_addStep := by
  unfold zdecs md_X8_addStep
  decide +kernel
def md_X8_sheetsOf : List (Nat × Instr × Nat) := [(0, .iconst 1, 1), (1, .aload_n 1, 1), (2, .getfield 100, 3), (5, .ishl, 1), (6, .iconst 1, 1), (7, .isub, 1), (8, .istore_n 3, 1), (9, .iconst 0, 1), (10, .istore 4, 2), (12, .aload_n 0, 1), (13, .getfield 21, 3), (16, .iconst 0, 1), (17, .iconst 0, 1), (18, .iastore, 1), (19, .iconst 0, 1), (20, .istore 5, 2), (22, .iload 5, 2), (24, .aload_n 0, 1), (25, .getfield 28, 3), (28, .if_icmp .ge 170, 3), (31, .iload 5, 2), (33, .bipush 40, 2), (35, .if_icmp .ge 163, 3), (38, .aload_n 0, 1), (39, .getfield 11, 3), (42, .iload 5, 2), (44, .iaload, 1), (45, .bipush 13, 2), (47, .if_icmp .ne 34, 3), (50, .iload 4, 2), (52, .iconst 1, 1), (53, .if_icmp .lt 28, 3), (56, .aload_n 0, 1), (57, .getfield 21, 3), (60, .iload 4, 2), (62, .iconst 1, 1), (63, .isub, 1), (64, .iload_n 3, 1), (65, .aload_n 0, 1), (66, .getfield 21, 3), (69, .iload 4, 2), (71, .iconst 1, 1), (72, .isub, 1), (73, .iaload, 1), (74, .iconst (-1), 1), (75, .ixor, 1), (76, .iand, 1), (77, .iastore, 1), (78, .goto 114, 3), (81, .aload_n 0, 1), (82, .getfield 11, 3), (85, .iload 5, 2), (87, .iaload, 1), (88, .bipush 12, 2), (90, .if_icmp .ne 34, 3), (93, .iload 4, 2), (95, .iconst 2, 1), (96, .if_icmp .lt 28, 3), (99, .iinc 4 (-1), 3), (102, .aload_n 0, 1), (103, .getfield 21, 3), (106, .iload 4, 2), (108, .iconst 1, 1), (109, .isub, 1), (110, .dup2, 1), (111, .iaload, 1), (112, .aload_n 0, 1), (113, .getfield 21, 3), (116, .iload 4, 2), (118, .iaload, 1), (119, .iand, 1), (120, .iastore, 1), (121, .goto 71, 3), (124, .aload_n 0, 1), (125, .getfield 11, 3), (128, .iload 5, 2), (130, .iaload, 1), (131, .bipush 11, 2), (133, .if_icmp .ne 34, 3), (136, .iload 4, 2), (138, .iconst 2, 1), (139, .if_icmp .lt 28, 3), (142, .iinc 4 (-1), 3), (145, .aload_n 0, 1), (146, .getfield 21, 3), (149, .iload 4, 2), (151, .iconst 1, 1), (152, .isub, 1), (153, .dup2, 1), (154, .iaload, 1), (155, .aload_n 0, 1), (156, .getfield 21, 3), (159, .iload 4, 2), (161, .iaload, 1), (162, .ior, 1), (163, .iastore, 1), (164, .goto 28, 3), (167, .iload 4, 2), (169, .bipush 40, 2), (171, .if_icmp .ge 21, 3), (174, .aload_n 0, 1), (175, .getfield 21, 3), (178, .iload 4, 2), (180, .aload_n 0, 1), (181, .aload_n 1, 1), (182, .aload_n 2, 1), (183, .iload 5, 2), (185, .invokevirtual 103, 3), (188, .iastore, 1), (189, .iinc 4 1, 3), (192, .iinc 5 1, 3), (195, .goto (-173), 3), (198, .aload_n 0, 1), (199, .getfield 21, 3), (202, .iconst 0, 1), (203, .iaload, 1), (204, .ireturn, 1)]
set_option maxRecDepth 20000 in
theorem me_X8_sheetsOf : zdecs cX8_sheetsOf md_X8_sheetsOf := by
  unfold zdecs md_X8_sheetsOf
  decide +kernel
def md_X8_sheetsOfStep : List (Nat × Instr × Nat) := [(0, .aload_n 0, 1), (1, .getfield 11, 3), (4, .iload_n 3, 1), (5, .iaload, 1), (6, .tableswitch 68 14 18 #[34, 40, 46, 52, 57], 34), (40, .aload_n 2, 1), (41, .iconst 0, 1), (42, .invokevirtual 107, 3), (45, .ireturn, 1), (46, .aload_n 2, 1), (47, .iconst 2, 1), (48, .invokevirtual 107, 3), (51, .ireturn, 1), (52, .aload_n 2, 1), (53, .iconst 3, 1), (54, .invokevirtual 107, 3), (57, .ireturn, 1), (58, .aload_n 2, 1), (59, .invokevirtual 113, 3), (62, .ireturn, 1), (63, .aload_n 2, 1), (64, .aload_n 0, 1), (65, .getfield 15, 3), (68, .iload_n 3, 1), (69, .iaload, 1), (70, .invokevirtual 116, 3), (73, .ireturn, 1), (74, .aload_n 0, 1), (75, .aload_n 1, 1), (76, .aload_n 2, 1), (77, .iload_n 3, 1), (78, .invokevirtual 119, 3), (81, .ireturn, 1)]
set_option maxRecDepth 20000 in
theorem me_X8_sheetsOfStep : zdecs cX8_sheetsOfStep md_X8_sheetsOfStep := by
  unfold zdecs md_X8_sheetsOfStep
  decide +kernel
def md_X8_sheetsThatCompare : List (Nat × Instr × Nat) := [(0, .iconst 0, 1), (1, .istore 4, 2), (3, .iconst 0, 1), (4, .istore 5, 2), (6, .iload 5, 2), (8, .aload_n 1, 1), (9, .getfield 100, 3), (12, .if_icmp .ge 143, 3), (15, .aload_n 0, 1), (16, .getfield 11, 3), (19, .iload_n 3, 1), (20, .iaload, 1), (21, .tableswitch 105 19 22 #[31, 57, 73, 89], 31), (52, .aload_n 1, 1), (53, .getfield 122, 3), (56, .iload 5, 2), (58, .iaload, 1), (59, .aload_n 0, 1), (60, .getfield 15, 3), (63, .iload_n 3, 1), (64, .iaload, 1), (65, .if_icmp .ne 7, 3), (68, .iconst 1, 1), (69, .goto 4, 3), (72, .iconst 0, 1), (73, .istore 6, 2), (75, .goto 60, 3), (78, .aload_n 0, 1), (79, .aload_n 2, 1), (80, .iload 5, 2), (82, .invokevirtual 125, 3), (85, .iload_n 3, 1), (86, .invokevirtual 128, 3), (89, .istore 6, 2), (91, .goto 44, 3), (94, .aload_n 0, 1), (95, .aload_n 2, 1), (96, .iload 5, 2), (98, .invokevirtual 132, 3), (101, .iload_n 3, 1), (102, .invokevirtual 128, 3), (105, .istore 6, 2), (107, .goto 28, 3), (110, .aload_n 0, 1), (111, .aload_n 2, 1), (112, .iload 5, 2), (114, .invokevirtual 135, 3), (117, .iload_n 3, 1), (118, .invokevirtual 128, 3), (121, .istore 6, 2), (123, .goto 12, 3), (126, .aload_n 0, 1), (127, .iload 5, 2), (129, .iload_n 3, 1), (130, .invokevirtual 128, 3), (133, .istore 6, 2), (135, .iload 6, 2), (137, .ifCond .eq 12, 3), (140, .iload 4, 2), (142, .iconst 1, 1), (143, .iload 5, 2), (145, .ishl, 1), (146, .ior, 1), (147, .istore 4, 2), (149, .iinc 5 1, 3), (152, .goto (-146), 3), (155, .iload 4, 2), (157, .ireturn, 1)]
set_option maxRecDepth 20000 in
theorem me_X8_sheetsThatCompare : zdecs cX8_sheetsThatCompare md_X8_sheetsThatCompare := by
  unfold zdecs md_X8_sheetsThatCompare
  decide +kernel
def md_X8_compares : List (Nat × Instr × Nat) := [(0, .aload_n 0, 1), (1, .getfield 15, 3), (4, .iload_n 2, 1), (5, .iaload, 1), (6, .bipush 60, 2), (8, .if_icmp .ne 19, 3), (11, .iload_n 1, 1), (12, .aload_n 0, 1), (13, .getfield 18, 3), (16, .iload_n 2, 1), (17, .iaload, 1), (18, .if_icmp .ge 7, 3), (21, .iconst 1, 1), (22, .goto 4, 3), (25, .iconst 0, 1), (26, .ireturn, 1), (27, .aload_n 0, 1), (28, .getfield 15, 3), (31, .iload_n 2, 1), (32, .iaload, 1), (33, .bipush 62, 2), (35, .if_icmp .ne 21, 3), (38, .iload_n 1, 1), (39, .aload_n 0, 1), (40, .getfield 18, 3), (43, .iload_n 2, 1), (44, .iaload, 1), (45, .if_icmp .le 7, 3), (48, .iconst 1, 1), (49, .goto 22, 3), (52, .iconst 0, 1), (53, .goto 18, 3), (56, .iload_n 1, 1), (57, .aload_n 0, 1), (58, .getfield 18, 3), (61, .iload_n 2, 1), (62, .iaload, 1), (63, .if_icmp .ne 7, 3), (66, .iconst 1, 1), (67, .goto 4, 3), (70, .iconst 0, 1), (71, .ireturn, 1)]
set_option maxRecDepth 20000 in
theorem me_X8_compares : zdecs cX8_compares md_X8_compares := by
  unfold zdecs md_X8_compares
  decide +kernel
def md_X9_init : List (Nat × Instr × Nat) := [(0, .aload_n 0, 1), (1, .invokespecial 3, 3), (4, .aload_n 0, 1), (5, .bipush 24, 2), (7, .newarray .int, 2), (9, .putfield 11, 3), (12, .return_, 1)]
set_option maxRecDepth 20000 in
theorem me_X9_init : zdecs cX9_init md_X9_init := by
  unfold zdecs md_X9_init
  decide +kernel
def md_X9_write : List (Nat × Instr × Nat) := [(0, .aload_n 0, 1), (1, .iconst 0, 1), (2, .putfield 15, 3), (5, .aload_n 1, 1), (6, .iload_n 3, 1), (7, .invokevirtual 19, 3), (10, .ifCond .ne 4, 3), (13, .return_, 1), (14, .aload_n 0, 1), (15, .aload_n 1, 1), (16, .getfield 25, 3), (19, .bipush 11, 2), (21, .iload_n 3, 1), (22, .iadd, 1), (23, .laload, 1), (24, .invokevirtual 29, 3), (27, .aload_n 2, 1), (28, .iload_n 3, 1), (29, .invokevirtual 33, 3), (32, .tableswitch 59 0 3 #[32, 59, 41, 50], 32), (64, .aload_n 0, 1), (65, .ldc 39, 2), (67, .invokevirtual 41, 3), (70, .goto 28, 3), (73, .aload_n 0, 1), (74, .ldc 45, 2), (76, .invokevirtual 41, 3), (79, .goto 19, 3), (82, .aload_n 0, 1), (83, .ldc 47, 2), (85, .invokevirtual 41, 3), (88, .goto 10, 3), (91, .aload_n 0, 1), (92, .aload_n 1, 1), (93, .aload_n 2, 1), (94, .iload_n 3, 1), (95, .invokevirtual 49, 3), (98, .return_, 1)]
set_option maxRecDepth 20000 in
theorem me_X9_write : zdecs cX9_write md_X9_write := by
  unfold zdecs md_X9_write
  decide +kernel
def md_X9_writeBath : List (Nat × Instr × Nat) := [(0, .aload_n 2, 1), (1, .iload_n 3, 1), (2, .invokevirtual 53, 3), (5, .istore 4, 2), (7, .aload_n 1, 1), (8, .iload 4, 2), (10, .invokevirtual 56, 3), (13, .ifCond .ne 4, 3), (16, .return_, 1), (17, .aload_n 0, 1), (18, .ldc 59, 2), (20, .invokevirtual 41, 3), (23, .aload_n 0, 1), (24, .aload_n 1, 1), (25, .getfield 25, 3), (28, .iconst 0, 1), (29, .iload 4, 2), (31, .iadd, 1), (32, .laload, 1), (33, .invokevirtual 29, 3), (36, .aload_n 0, 1), (37, .bipush 32, 2), (39, .invokevirtual 61, 3), (42, .aload_n 2, 1), (43, .iload_n 3, 1), (44, .invokevirtual 65, 3), (47, .istore 5, 2), (49, .iload 5, 2), (51, .bipush 9, 2), (53, .if_icmp .le 15, 3), (56, .aload_n 0, 1), (57, .bipush 48, 2), (59, .iload 5, 2), (61, .bipush 10, 2), (63, .idiv, 1), (64, .iadd, 1), (65, .invokevirtual 61, 3), (68, .aload_n 0, 1), (69, .bipush 48, 2), (71, .iload 5, 2), (73, .bipush 10, 2), (75, .irem, 1), (76, .iadd, 1), (77, .invokevirtual 61, 3), (80, .return_, 1)]
set_option maxRecDepth 20000 in
theorem me_X9_writeBath : zdecs cX9_writeBath md_X9_writeBath := by
  unfold zdecs md_X9_writeBath
  decide +kernel
def md_X9_addName : List (Nat × Instr × Nat) := [(0, .bipush 30, 2), (2, .istore_n 3, 1), (3, .iload_n 3, 1), (4, .ifCond .lt 33, 3), (7, .lload_n 1, 1), (8, .iload_n 3, 1), (9, .lshr, 1), (10, .ldc2_w 68, 3), (13, .land, 1), (14, .l2i, 1), (15, .istore 4, 2), (17, .iload 4, 2), (19, .ifCond .eq 12, 3), (22, .aload_n 0, 1), (23, .bipush 96, 2), (25, .iload 4, 2), (27, .iadd, 1), (28, .invokevirtual 61, 3), (31, .iinc 3 (-5), 3), (34, .goto (-31), 3), (37, .return_, 1)]
set_option maxRecDepth 20000 in
theorem me_X9_addName : zdecs cX9_addName md_X9_addName := by
  unfold zdecs md_X9_addName
  decide +kernel
def md_X9_addText : List (Nat × Instr × Nat) := [(0, .iconst 0, 1), (1, .istore_n 2, 1), (2, .iload_n 2, 1), (3, .aload_n 1, 1), (4, .invokevirtual 70, 3), (7, .if_icmp .ge 18, 3), (10, .aload_n 0, 1), (11, .aload_n 1, 1), (12, .iload_n 2, 1), (13, .invokevirtual 75, 3), (16, .invokevirtual 61, 3), (19, .iinc 2 1, 3), (22, .goto (-20), 3), (25, .return_, 1)]
set_option maxRecDepth 20000 in
theorem me_X9_addText : zdecs cX9_addText md_X9_addText := by
  unfold zdecs md_X9_addText
  decide +kernel
def md_X9_add : List (Nat × Instr × Nat) := [(0, .aload_n 0, 1), (1, .getfield 15, 3), (4, .bipush 24, 2), (6, .if_icmp .ge 23, 3), (9, .aload_n 0, 1), (10, .getfield 11, 3), (13, .aload_n 0, 1), (14, .getfield 15, 3), (17, .iload_n 1, 1), (18, .iastore, 1), (19, .aload_n 0, 1), (20, .dup, 1), (21, .getfield 15, 3), (24, .iconst 1, 1), (25, .iadd, 1), (26, .putfield 15, 3), (29, .return_, 1)]
set_option maxRecDepth 20000 in
theorem me_X9_add : zdecs cX9_add md_X9_add := by
  unfold zdecs md_X9_add
  decide +kernel
def md_X10_init : List (Nat × Instr × Nat) := [(0, .aload_n 0, 1), (1, .invokespecial 3, 3), (4, .aload_n 0, 1), (5, .sipush 940, 3), (8, .newarray .int, 2), (10, .putfield 11, 3), (13, .aload_n 0, 1), (14, .bipush 24, 2), (16, .newarray .long, 2), (18, .putfield 15, 3), (21, .iconst 0, 1), (22, .istore_n 1, 1), (23, .iconst 0, 1), (24, .istore_n 2, 1), (25, .iload_n 2, 1), (26, .ldc 19, 2), (28, .invokevirtual 21, 3), (31, .if_icmp .ge 55, 3), (34, .iload_n 1, 1), (35, .bipush 24, 2), (37, .if_icmp .ge 49, 3), (40, .ldc 19, 2), (42, .iload_n 2, 1), (43, .invokevirtual 27, 3), (46, .istore_n 3, 1), (47, .iload_n 3, 1), (48, .bipush 32, 2), (50, .if_icmp .ne 9, 3), (53, .iinc 1 1, 3), (56, .goto 24, 3), (59, .aload_n 0, 1), (60, .getfield 15, 3), (63, .iload_n 1, 1), (64, .aload_n 0, 1), (65, .getfield 15, 3), (68, .iload_n 1, 1), (69, .laload, 1), (70, .iconst 5, 1), (71, .lshl, 1), (72, .iload_n 3, 1), (73, .i2l, 1), (74, .ladd, 1), (75, .ldc2_w 31, 3), (78, .lsub, 1), (79, .lastore, 1), (80, .iinc 2 1, 3), (83, .goto (-58), 3), (86, .return_, 1)]
set_option maxRecDepth 20000 in
theorem me_X10_init : zdecs cX10_init md_X10_init := by
  unfold zdecs md_X10_init
  decide +kernel
def md_X10_addNumber : List (Nat × Instr × Nat) := [(0, .bipush 24, 2), (2, .istore_n 2, 1), (3, .iload_n 2, 1), (4, .ifCond .lt 45, 3), (7, .aload_n 0, 1), (8, .getfield 33, 3), (11, .sipush 940, 3), (14, .if_icmp .ge 35, 3), (17, .aload_n 0, 1), (18, .getfield 11, 3), (21, .aload_n 0, 1), (22, .getfield 33, 3), (25, .iload_n 1, 1), (26, .iload_n 2, 1), (27, .iushr, 1), (28, .sipush 255, 3), (31, .iand, 1), (32, .iastore, 1), (33, .aload_n 0, 1), (34, .dup, 1), (35, .getfield 33, 3), (38, .iconst 1, 1), (39, .iadd, 1), (40, .putfield 33, 3), (43, .iinc 2 (-8), 3), (46, .goto (-43), 3), (49, .return_, 1)]
set_option maxRecDepth 20000 in
theorem me_X10_addNumber : zdecs cX10_addNumber md_X10_addNumber := by
  unfold zdecs md_X10_addNumber
  decide +kernel
def md_X10_begin : List (Nat × Instr × Nat) := [(0, .aload_n 0, 1), (1, .iload_n 1, 1), (2, .putfield 36, 3), (5, .aload_n 0, 1), (6, .iconst 0, 1), (7, .putfield 39, 3), (10, .aload_n 0, 1), (11, .iconst 0, 1), (12, .putfield 42, 3), (15, .aload_n 0, 1), (16, .iconst 0, 1), (17, .putfield 45, 3), (20, .aload_n 0, 1), (21, .invokevirtual 48, 3), (24, .return_, 1)]
set_option maxRecDepth 20000 in
theorem me_X10_begin : zdecs cX10_begin md_X10_begin := by
  unfold zdecs md_X10_begin
  decide +kernel
def md_X10_next : List (Nat × Instr × Nat) := [(0, .aload_n 0, 1), (1, .getfield 45, 3), (4, .aload_n 0, 1), (5, .getfield 33, 3), (8, .if_icmp .ge 44, 3), (11, .aload_n 0, 1), (12, .getfield 11, 3), (15, .aload_n 0, 1), (16, .getfield 45, 3), (19, .iaload, 1), (20, .bipush 32, 2), (22, .if_icmp .eq 17, 3), (25, .aload_n 0, 1), (26, .getfield 11, 3), (29, .aload_n 0, 1), (30, .getfield 45, 3), (33, .iaload, 1), (34, .bipush 10, 2), (36, .if_icmp .ne 16, 3), (39, .aload_n 0, 1), (40, .dup, 1), (41, .getfield 45, 3), (44, .iconst 1, 1), (45, .iadd, 1), (46, .putfield 45, 3), (49, .goto (-49), 3), (52, .aload_n 0, 1), (53, .aload_n 0, 1), (54, .getfield 45, 3), (57, .putfield 51, 3), (60, .aload_n 0, 1), (61, .iconst (-1), 1), (62, .putfield 54, 3), (65, .aload_n 0, 1), (66, .getfield 33, 3), (69, .aload_n 0, 1), (70, .getfield 36, 3), (73, .if_icmp .le 30, 3), (76, .aload_n 0, 1), (77, .getfield 45, 3), (80, .aload_n 0, 1), (81, .getfield 36, 3), (84, .if_icmp .lt 19, 3), (87, .aload_n 0, 1), (88, .aload_n 0, 1), (89, .getfield 36, 3), (92, .putfield 51, 3), (95, .aload_n 0, 1), (96, .iconst 5, 1), (97, .putfield 57, 3), (100, .goto 72, 3), (103, .aload_n 0, 1), (104, .getfield 45, 3), (107, .aload_n 0, 1), (108, .getfield 33, 3), (111, .if_icmp .lt 11, 3), (114, .aload_n 0, 1), (115, .iconst 0, 1), (116, .putfield 57, 3), (119, .goto 53, 3), (122, .aload_n 0, 1), (123, .getfield 11, 3), (126, .aload_n 0, 1), (127, .getfield 45, 3), (130, .iaload, 1), (131, .invokestatic 60, 3), (134, .ifCond .eq 34, 3), (137, .aload_n 0, 1), (138, .aload_n 0, 1), (139, .getfield 11, 3), (142, .aload_n 0, 1), (143, .getfield 45, 3), (146, .iaload, 1), (147, .putfield 64, 3), (150, .aload_n 0, 1), (151, .iconst 4, 1), (152, .putfield 57, 3), (155, .aload_n 0, 1), (156, .dup, 1), (157, .getfield 45, 3), (160, .iconst 1, 1), (161, .iadd, 1), (162, .putfield 45, 3), (165, .goto 7, 3), (168, .aload_n 0, 1), (169, .invokevirtual 67, 3), (172, .return_, 1)]
set_option maxRecDepth 20000 in
theorem me_X10_next : zdecs cX10_next md_X10_next := by
  unfold zdecs md_X10_next
  decide +kernel
def md_X10_readRun : List (Nat × Instr × Nat) := [(0, .iconst 0, 1), (1, .istore_n 1, 1), (2, .iconst 0, 1), (3, .istore_n 2, 1), (4, .aload_n 0, 1), (5, .lconst 0, 1), (6, .putfield 70, 3), (9, .aload_n 0, 1), (10, .iconst 0, 1), (11, .putfield 64, 3), (14, .aload_n 0, 1), (15, .getfield 45, 3), (18, .aload_n 0, 1), (19, .getfield 33, 3), (22, .if_icmp .ge 92, 3), (25, .aload_n 0, 1), (26, .getfield 11, 3), (29, .aload_n 0, 1), (30, .getfield 45, 3), (33, .iaload, 1), (34, .istore_n 3, 1), (35, .iload_n 3, 1), (36, .bipush 97, 2), (38, .if_icmp .lt 32, 3), (41, .iload_n 3, 1), (42, .bipush 122, 2), (44, .if_icmp .gt 26, 3), (47, .iinc 1 1, 3), (50, .aload_n 0, 1), (51, .aload_n 0, 1), (52, .getfield 70, 3), (55, .iconst 5, 1), (56, .lshl, 1), (57, .iload_n 3, 1), (58, .i2l, 1), (59, .ladd, 1), (60, .ldc2_w 31, 3), (63, .lsub, 1), (64, .putfield 70, 3), (67, .goto 34, 3), (70, .iload_n 3, 1), (71, .bipush 48, 2), (73, .if_icmp .lt 41, 3), (76, .iload_n 3, 1), (77, .bipush 57, 2), (79, .if_icmp .gt 35, 3), (82, .iinc 2 1, 3), (85, .aload_n 0, 1), (86, .aload_n 0, 1), (87, .getfield 64, 3), (90, .bipush 10, 2), (92, .imul, 1), (93, .iload_n 3, 1), (94, .iadd, 1), (95, .bipush 48, 2), (97, .isub, 1), (98, .putfield 64, 3), (101, .aload_n 0, 1), (102, .dup, 1), (103, .getfield 45, 3), (106, .iconst 1, 1), (107, .iadd, 1), (108, .putfield 45, 3), (111, .goto (-97), 3), (114, .aload_n 0, 1), (115, .iconst 5, 1), (116, .putfield 57, 3), (119, .iload_n 2, 1), (120, .ifCond .ne 22, 3), (123, .iload_n 1, 1), (124, .iconst 1, 1), (125, .if_icmp .lt 17, 3), (128, .iload_n 1, 1), (129, .bipush 7, 2), (131, .if_icmp .gt 11, 3), (134, .aload_n 0, 1), (135, .iconst 1, 1), (136, .putfield 57, 3), (139, .goto 22, 3), (142, .iload_n 1, 1), (143, .ifCond .ne 18, 3), (146, .iload_n 2, 1), (147, .iconst 1, 1), (148, .if_icmp .lt 13, 3), (151, .iload_n 2, 1), (152, .iconst 3, 1), (153, .if_icmp .gt 8, 3), (156, .aload_n 0, 1), (157, .iconst 3, 1), (158, .putfield 57, 3), (161, .iconst 0, 1), (162, .istore_n 3, 1), (163, .iload_n 3, 1), (164, .bipush 24, 2), (166, .if_icmp .ge 41, 3), (169, .aload_n 0, 1), (170, .getfield 57, 3), (173, .iconst 1, 1), (174, .if_icmp .ne 33, 3), (177, .aload_n 0, 1), (178, .getfield 15, 3), (181, .iload_n 3, 1), (182, .laload, 1), (183, .aload_n 0, 1), (184, .getfield 70, 3), (187, .lcmp, 1), (188, .ifCond .ne 13, 3), (191, .aload_n 0, 1), (192, .iload_n 3, 1), (193, .putfield 54, 3), (196, .aload_n 0, 1), (197, .iconst 2, 1), (198, .putfield 57, 3), (201, .iinc 3 1, 3), (204, .goto (-41), 3), (207, .return_, 1)]
set_option maxRecDepth 20000 in
theorem me_X10_readRun : zdecs cX10_readRun md_X10_readRun := by
  unfold zdecs md_X10_readRun
  decide +kernel
def md_X10_isMark : List (Nat × Instr × Nat) := [(0, .iload_n 0, 1), (1, .bipush 59, 2), (3, .if_icmp .eq 33, 3), (6, .iload_n 0, 1), (7, .bipush 60, 2), (9, .if_icmp .eq 27, 3), (12, .iload_n 0, 1), (13, .bipush 61, 2), (15, .if_icmp .eq 21, 3), (18, .iload_n 0, 1), (19, .bipush 62, 2), (21, .if_icmp .eq 15, 3), (24, .iload_n 0, 1), (25, .bipush 40, 2), (27, .if_icmp .eq 9, 3), (30, .iload_n 0, 1), (31, .bipush 41, 2), (33, .if_icmp .ne 7, 3), (36, .iconst 1, 1), (37, .goto 4, 3), (40, .iconst 0, 1), (41, .ireturn, 1)]
set_option maxRecDepth 20000 in
theorem me_X10_isMark : zdecs cX10_isMark md_X10_isMark := by
  unfold zdecs md_X10_isMark
  decide +kernel
def md_X10_isEnd : List (Nat × Instr × Nat) := [(0, .aload_n 0, 1), (1, .getfield 57, 3), (4, .ifCond .ne 7, 3), (7, .iconst 1, 1), (8, .goto 4, 3), (11, .iconst 0, 1), (12, .ireturn, 1)]
set_option maxRecDepth 20000 in
theorem me_X10_isEnd : zdecs cX10_isEnd md_X10_isEnd := by
  unfold zdecs md_X10_isEnd
  decide +kernel
def md_X10_isSign : List (Nat × Instr × Nat) := [(0, .aload_n 0, 1), (1, .getfield 57, 3), (4, .iconst 4, 1), (5, .if_icmp .ne 15, 3), (8, .aload_n 0, 1), (9, .getfield 64, 3), (12, .iload_n 1, 1), (13, .if_icmp .ne 7, 3), (16, .iconst 1, 1), (17, .goto 4, 3), (20, .iconst 0, 1), (21, .ireturn, 1)]
set_option maxRecDepth 20000 in
theorem me_X10_isSign : zdecs cX10_isSign md_X10_isSign := by
  unfold zdecs md_X10_isSign
  decide +kernel
def md_X10_fail : List (Nat × Instr × Nat) := [(0, .aload_n 0, 1), (1, .iload_n 1, 1), (2, .putfield 39, 3), (5, .aload_n 0, 1), (6, .aload_n 0, 1), (7, .getfield 51, 3), (10, .putfield 42, 3), (13, .iconst 0, 1), (14, .ireturn, 1)]
set_option maxRecDepth 20000 in
theorem me_X10_fail : zdecs cX10_fail md_X10_fail := by
  unfold zdecs md_X10_fail
  decide +kernel
def md_X10_passSign : List (Nat × Instr × Nat) := [(0, .aload_n 0, 1), (1, .iload_n 1, 1), (2, .invokevirtual 74, 3), (5, .ifCond .ne 9, 3), (8, .aload_n 0, 1), (9, .iconst 1, 1), (10, .invokevirtual 77, 3), (13, .ireturn, 1), (14, .aload_n 0, 1), (15, .invokevirtual 48, 3), (18, .iconst 1, 1), (19, .ireturn, 1)]
set_option maxRecDepth 20000 in
theorem me_X10_passSign : zdecs cX10_passSign md_X10_passSign := by
  unfold zdecs md_X10_passSign
  decide +kernel
def md_X10_passNumber : List (Nat × Instr × Nat) := [(0, .aload_n 0, 1), (1, .getfield 64, 3), (4, .istore_n 3, 1), (5, .aload_n 0, 1), (6, .getfield 57, 3), (9, .iconst 3, 1), (10, .if_icmp .eq 11, 3), (13, .aload_n 0, 1), (14, .iconst 1, 1), (15, .invokevirtual 77, 3), (18, .pop, 1), (19, .iconst (-1), 1), (20, .ireturn, 1), (21, .iload_n 3, 1), (22, .iload_n 1, 1), (23, .if_icmp .lt 8, 3), (26, .iload_n 3, 1), (27, .iload_n 2, 1), (28, .if_icmp .le 11, 3), (31, .aload_n 0, 1), (32, .iconst 2, 1), (33, .invokevirtual 77, 3), (36, .pop, 1), (37, .iconst (-1), 1), (38, .ireturn, 1), (39, .aload_n 0, 1), (40, .invokevirtual 48, 3), (43, .iload_n 3, 1), (44, .ireturn, 1)]
set_option maxRecDepth 20000 in
theorem me_X10_passNumber : zdecs cX10_passNumber md_X10_passNumber := by
  unfold zdecs md_X10_passNumber
  decide +kernel
def md_X10_passComparing : List (Nat × Instr × Nat) := [(0, .aload_n 0, 1), (1, .getfield 64, 3), (4, .istore_n 1, 1), (5, .aload_n 0, 1), (6, .bipush 60, 2), (8, .invokevirtual 74, 3), (11, .ifCond .ne 29, 3), (14, .aload_n 0, 1), (15, .bipush 61, 2), (17, .invokevirtual 74, 3), (20, .ifCond .ne 20, 3), (23, .aload_n 0, 1), (24, .bipush 62, 2), (26, .invokevirtual 74, 3), (29, .ifCond .ne 11, 3), (32, .aload_n 0, 1), (33, .iconst 1, 1), (34, .invokevirtual 77, 3), (37, .pop, 1), (38, .iconst (-1), 1), (39, .ireturn, 1), (40, .aload_n 0, 1), (41, .invokevirtual 48, 3), (44, .iload_n 1, 1), (45, .ireturn, 1)]
set_option maxRecDepth 20000 in
theorem me_X10_passComparing : zdecs cX10_passComparing md_X10_passComparing := by
  unfold zdecs md_X10_passComparing
  decide +kernel
def md_X11_init : List (Nat × Instr × Nat) := [(0, .aload_n 0, 1), (1, .invokespecial 1, 3), (4, .aload_n 0, 1), (5, .new 7, 3), (8, .dup, 1), (9, .invokespecial 9, 3), (12, .putfield 10, 3), (15, .aload_n 0, 1), (16, .new 16, 3), (19, .dup, 1), (20, .invokespecial 18, 3), (23, .putfield 19, 3), (26, .aload_n 0, 1), (27, .new 16, 3), (30, .dup, 1), (31, .invokespecial 18, 3), (34, .putfield 23, 3), (37, .aload_n 0, 1), (38, .new 26, 3), (41, .dup, 1), (42, .aload_n 0, 1), (43, .getfield 19, 3), (46, .invokespecial 28, 3), (49, .putfield 31, 3), (52, .aload_n 0, 1), (53, .new 26, 3), (56, .dup, 1), (57, .aload_n 0, 1), (58, .getfield 19, 3), (61, .invokespecial 28, 3), (64, .putfield 35, 3), (67, .aload_n 0, 1), (68, .new 38, 3), (71, .dup, 1), (72, .invokespecial 40, 3), (75, .putfield 41, 3), (78, .aload_n 0, 1), (79, .new 38, 3), (82, .dup, 1), (83, .invokespecial 40, 3), (86, .putfield 45, 3), (89, .aload_n 0, 1), (90, .new 48, 3), (93, .dup, 1), (94, .invokespecial 50, 3), (97, .putfield 51, 3), (100, .aload_n 0, 1), (101, .new 55, 3), (104, .dup, 1), (105, .invokespecial 57, 3), (108, .putfield 58, 3), (111, .aload_n 0, 1), (112, .new 62, 3), (115, .dup, 1), (116, .aload_n 0, 1), (117, .getfield 19, 3), (120, .aload_n 0, 1), (121, .getfield 31, 3), (124, .aload_n 0, 1), (125, .getfield 35, 3), (128, .invokespecial 64, 3), (131, .putfield 67, 3), (134, .aload_n 0, 1), (135, .new 71, 3), (138, .dup, 1), (139, .aload_n 0, 1), (140, .getfield 19, 3), (143, .invokespecial 73, 3), (146, .putfield 74, 3), (149, .aload_n 0, 1), (150, .new 78, 3), (153, .dup, 1), (154, .invokespecial 80, 3), (157, .putfield 81, 3), (160, .aload_n 0, 1), (161, .new 85, 3), (164, .dup, 1), (165, .invokespecial 87, 3), (168, .putfield 88, 3), (171, .aload_n 0, 1), (172, .iconst 2, 1), (173, .anewarray 92, 3), (176, .putfield 94, 3), (179, .iconst 0, 1), (180, .istore_n 1, 1), (181, .iload_n 1, 1), (182, .iconst 2, 1), (183, .if_icmp .ge 22, 3), (186, .aload_n 0, 1), (187, .getfield 94, 3), (190, .iload_n 1, 1), (191, .new 92, 3), (194, .dup, 1), (195, .invokespecial 98, 3), (198, .aastore, 1), (199, .iinc 1 1, 3), (202, .goto (-21), 3), (205, .return_, 1)]
set_option maxRecDepth 20000 in
theorem me_X11_init : zdecs cX11_init md_X11_init := by
  unfold zdecs md_X11_init
  decide +kernel
def md_X11_feed : List (Nat × Instr × Nat) := [(0, .aload_n 0, 1), (1, .getfield 10, 3), (4, .getfield 99, 3), (7, .bipush 20, 2), (9, .iadd, 1), (10, .sipush 940, 3), (13, .if_icmp .le 5, 3), (16, .iconst (-1), 1), (17, .ireturn, 1), (18, .aload_n 0, 1), (19, .getfield 10, 3), (22, .iload_n 1, 1), (23, .invokevirtual 103, 3), (26, .aload_n 0, 1), (27, .getfield 10, 3), (30, .iload_n 2, 1), (31, .invokevirtual 103, 3), (34, .aload_n 0, 1), (35, .getfield 10, 3), (38, .iload_n 3, 1), (39, .invokevirtual 103, 3), (42, .aload_n 0, 1), (43, .getfield 10, 3), (46, .iload 4, 2), (48, .invokevirtual 103, 3), (51, .aload_n 0, 1), (52, .getfield 10, 3), (55, .iload 5, 2), (57, .invokevirtual 103, 3), (60, .aload_n 0, 1), (61, .getfield 10, 3), (64, .getfield 99, 3), (67, .ireturn, 1)]
set_option maxRecDepth 20000 in
theorem me_X11_feed : zdecs cX11_feed md_X11_feed := by
  unfold zdecs md_X11_feed
  decide +kernel
def md_X11_end : List (Nat × Instr × Nat) := [(0, .iload_n 1, 1), (1, .ifCond .lt 14, 3), (4, .iload_n 1, 1), (5, .aload_n 0, 1), (6, .getfield 10, 3), (9, .getfield 99, 3), (12, .if_icmp .le 5, 3), (15, .iconst 0, 1), (16, .ireturn, 1), (17, .aload_n 0, 1), (18, .getfield 10, 3), (21, .iload_n 1, 1), (22, .putfield 99, 3), (25, .iconst 1, 1), (26, .ireturn, 1)]
set_option maxRecDepth 20000 in
theorem me_X11_end : zdecs cX11_end md_X11_end := by
  unfold zdecs md_X11_end
  decide +kernel
def md_X11_room : List (Nat × Instr × Nat) := [(0, .aload_n 0, 1), (1, .getfield 23, 3), (4, .aload_n 0, 1), (5, .getfield 10, 3), (8, .invokevirtual 107, 3), (11, .istore_n 1, 1), (12, .aload_n 0, 1), (13, .getfield 10, 3), (16, .iconst 0, 1), (17, .putfield 99, 3), (20, .aload_n 0, 1), (21, .getfield 10, 3), (24, .getfield 111, 3), (27, .ifCond .eq 13, 3), (30, .iconst (-1), 1), (31, .aload_n 0, 1), (32, .getfield 10, 3), (35, .getfield 114, 3), (38, .isub, 1), (39, .ireturn, 1), (40, .aload_n 0, 1), (41, .getfield 19, 3), (44, .aload_n 0, 1), (45, .getfield 23, 3), (48, .invokevirtual 117, 3), (51, .aload_n 0, 1), (52, .getfield 31, 3), (55, .invokevirtual 120, 3), (58, .aload_n 0, 1), (59, .getfield 41, 3), (62, .invokevirtual 123, 3), (65, .aload_n 0, 1), (66, .getfield 58, 3), (69, .invokevirtual 126, 3), (72, .iload_n 1, 1), (73, .ireturn, 1)]
set_option maxRecDepth 20000 in
theorem me_X11_room : zdecs cX11_room md_X11_room := by
  unfold zdecs md_X11_room
  decide +kernel
def md_X11_fault : List (Nat × Instr × Nat) := [(0, .aload_n 0, 1), (1, .getfield 10, 3), (4, .getfield 111, 3), (7, .ireturn, 1)]
set_option maxRecDepth 20000 in
theorem me_X11_fault : zdecs cX11_fault md_X11_fault := by
  unfold zdecs md_X11_fault
  decide +kernel
def md_X11_bath : List (Nat × Instr × Nat) := [(0, .aload_n 0, 1), (1, .getfield 19, 3), (4, .iload_n 1, 1), (5, .invokevirtual 129, 3), (8, .ifCond .ne 5, 3), (11, .iconst (-1), 1), (12, .ireturn, 1), (13, .iload_n 2, 1), (14, .tableswitch 102 0 5 #[38, 48, 58, 67, 76, 93], 38), (52, .aload_n 0, 1), (53, .getfield 19, 3), (56, .getfield 133, 3), (59, .iload_n 1, 1), (60, .iaload, 1), (61, .ireturn, 1), (62, .aload_n 0, 1), (63, .getfield 19, 3), (66, .getfield 137, 3), (69, .iload_n 1, 1), (70, .iaload, 1), (71, .ireturn, 1), (72, .aload_n 0, 1), (73, .getfield 31, 3), (76, .iload_n 1, 1), (77, .invokevirtual 140, 3), (80, .ireturn, 1), (81, .aload_n 0, 1), (82, .getfield 31, 3), (85, .iload_n 1, 1), (86, .invokevirtual 144, 3), (89, .ireturn, 1), (90, .aload_n 0, 1), (91, .getfield 31, 3), (94, .iload_n 1, 1), (95, .invokevirtual 147, 3), (98, .ifCond .eq 7, 3), (101, .iconst 1, 1), (102, .goto 4, 3), (105, .iconst 0, 1), (106, .ireturn, 1), (107, .aload_n 0, 1), (108, .getfield 31, 3), (111, .iload_n 1, 1), (112, .invokevirtual 150, 3), (115, .ireturn, 1), (116, .iconst (-1), 1), (117, .ireturn, 1)]
set_option maxRecDepth 20000 in
theorem me_X11_bath : zdecs cX11_bath md_X11_bath := by
  unfold zdecs md_X11_bath
  decide +kernel
def md_X11_asks : List (Nat × Instr × Nat) := [(0, .aload_n 0, 1), (1, .getfield 19, 3), (4, .iload_n 1, 1), (5, .invokevirtual 153, 3), (8, .ifCond .eq 26, 3), (11, .aload_n 0, 1), (12, .getfield 19, 3), (15, .iload_n 2, 1), (16, .invokevirtual 129, 3), (19, .ifCond .eq 15, 3), (22, .aload_n 0, 1), (23, .getfield 19, 3), (26, .iload_n 1, 1), (27, .iload_n 2, 1), (28, .invokevirtual 156, 3), (31, .goto 4, 3), (34, .iconst (-1), 1), (35, .ireturn, 1)]
set_option maxRecDepth 20000 in
theorem me_X11_asks : zdecs cX11_asks md_X11_asks := by
  unfold zdecs md_X11_asks
  decide +kernel
def md_X11_sheet : List (Nat × Instr × Nat) := [(0, .aload_n 0, 1), (1, .getfield 19, 3), (4, .iload_n 1, 1), (5, .invokevirtual 160, 3), (8, .ifCond .eq 13, 3), (11, .iload_n 2, 1), (12, .ifCond .lt 9, 3), (15, .iload_n 2, 1), (16, .bipush 6, 2), (18, .if_icmp .le 11, 3), (21, .new 163, 3), (24, .dup, 1), (25, .invokespecial 165, 3), (28, .athrow, 1), (29, .iload_n 2, 1), (30, .ifCond .ne 15, 3), (33, .aload_n 0, 1), (34, .getfield 19, 3), (37, .getfield 166, 3), (40, .iload_n 1, 1), (41, .iaload, 1), (42, .goto 12, 3), (45, .aload_n 0, 1), (46, .getfield 31, 3), (49, .iload_n 1, 1), (50, .iload_n 2, 1), (51, .invokevirtual 169, 3), (54, .ireturn, 1)]
set_option maxRecDepth 20000 in
theorem me_X11_sheet : zdecs cX11_sheet md_X11_sheet := by
  unfold zdecs md_X11_sheet
  decide +kernel
def md_X11_now : List (Nat × Instr × Nat) := [(0, .iload_n 1, 1), (1, .tableswitch 115 0 7 #[47, 55, 64, 73, 82, 91, 99, 107], 47), (48, .aload_n 0, 1), (49, .getfield 31, 3), (52, .invokevirtual 172, 3), (55, .ireturn, 1), (56, .aload_n 0, 1), (57, .getfield 31, 3), (60, .iconst 0, 1), (61, .invokevirtual 176, 3), (64, .ireturn, 1), (65, .aload_n 0, 1), (66, .getfield 31, 3), (69, .iconst 1, 1), (70, .invokevirtual 176, 3), (73, .ireturn, 1), (74, .aload_n 0, 1), (75, .getfield 31, 3), (78, .iconst 2, 1), (79, .invokevirtual 176, 3), (82, .ireturn, 1), (83, .aload_n 0, 1), (84, .getfield 31, 3), (87, .iconst 3, 1), (88, .invokevirtual 176, 3), (91, .ireturn, 1), (92, .aload_n 0, 1), (93, .getfield 31, 3), (96, .invokevirtual 179, 3), (99, .ireturn, 1), (100, .aload_n 0, 1), (101, .getfield 31, 3), (104, .invokevirtual 182, 3), (107, .ireturn, 1), (108, .aload_n 0, 1), (109, .getfield 31, 3), (112, .invokevirtual 185, 3), (115, .ireturn, 1), (116, .iconst (-1), 1), (117, .ireturn, 1)]
set_option maxRecDepth 20000 in
theorem me_X11_now : zdecs cX11_now md_X11_now := by
  unfold zdecs md_X11_now
  decide +kernel
def md_X11_start : List (Nat × Instr × Nat) := [(0, .aload_n 0, 1), (1, .getfield 58, 3), (4, .aload_n 0, 1), (5, .getfield 31, 3), (8, .invokevirtual 188, 3), (11, .aload_n 0, 1), (12, .aload_n 0, 1), (13, .getfield 31, 3), (16, .iload_n 1, 1), (17, .invokevirtual 192, 3), (20, .invokevirtual 195, 3), (23, .ireturn, 1)]
set_option maxRecDepth 20000 in
theorem me_X11_start : zdecs cX11_start md_X11_start := by
  unfold zdecs md_X11_start
  decide +kernel
def md_X11_take : List (Nat × Instr × Nat) := [(0, .aload_n 0, 1), (1, .getfield 58, 3), (4, .aload_n 0, 1), (5, .getfield 31, 3), (8, .invokevirtual 188, 3), (11, .aload_n 0, 1), (12, .aload_n 0, 1), (13, .getfield 31, 3), (16, .iload_n 1, 1), (17, .invokevirtual 198, 3), (20, .invokevirtual 195, 3), (23, .ireturn, 1)]
set_option maxRecDepth 20000 in
theorem me_X11_take : zdecs cX11_take md_X11_take := by
  unfold zdecs md_X11_take
  decide +kernel
def md_X11_again : List (Nat × Instr × Nat) := [(0, .aload_n 0, 1), (1, .getfield 58, 3), (4, .aload_n 0, 1), (5, .getfield 31, 3), (8, .invokevirtual 188, 3), (11, .aload_n 0, 1), (12, .aload_n 0, 1), (13, .getfield 31, 3), (16, .iload_n 1, 1), (17, .invokevirtual 201, 3), (20, .invokevirtual 195, 3), (23, .ireturn, 1)]
set_option maxRecDepth 20000 in
theorem me_X11_again : zdecs cX11_again md_X11_again := by
  unfold zdecs md_X11_again
  decide +kernel
def md_X11_renew : List (Nat × Instr × Nat) := [(0, .aload_n 0, 1), (1, .getfield 58, 3), (4, .aload_n 0, 1), (5, .getfield 31, 3), (8, .invokevirtual 188, 3), (11, .aload_n 0, 1), (12, .aload_n 0, 1), (13, .getfield 31, 3), (16, .iload_n 1, 1), (17, .invokevirtual 204, 3), (20, .invokevirtual 195, 3), (23, .ireturn, 1)]
set_option maxRecDepth 20000 in
theorem me_X11_renew : zdecs cX11_renew md_X11_renew := by
  unfold zdecs md_X11_renew
  decide +kernel
def md_X11_keptIfDone : List (Nat × Instr × Nat) := [(0, .iload_n 1, 1), (1, .ifCond .ne 10, 3), (4, .aload_n 0, 1), (5, .getfield 58, 3), (8, .invokevirtual 207, 3), (11, .iload_n 1, 1), (12, .ireturn, 1)]
set_option maxRecDepth 20000 in
theorem me_X11_keptIfDone : zdecs cX11_keptIfDone md_X11_keptIfDone := by
  unfold zdecs md_X11_keptIfDone
  decide +kernel
def md_X11_minutes : List (Nat × Instr × Nat) := [(0, .iload_n 1, 1), (1, .iconst 1, 1), (2, .if_icmp .lt 9, 3), (5, .iload_n 1, 1), (6, .bipush 60, 2), (8, .if_icmp .le 5, 3), (11, .iconst (-1), 1), (12, .ireturn, 1), (13, .aload_n 0, 1), (14, .getfield 58, 3), (17, .aload_n 0, 1), (18, .getfield 31, 3), (21, .invokevirtual 188, 3), (24, .iload_n 1, 1), (25, .sipush 1000, 3), (28, .aload_n 0, 1), (29, .getfield 31, 3), (32, .invokevirtual 172, 3), (35, .isub, 1), (36, .invokestatic 210, 3), (39, .istore_n 2, 1), (40, .aload_n 0, 1), (41, .getfield 31, 3), (44, .iload_n 2, 1), (45, .invokevirtual 215, 3), (48, .aload_n 0, 1), (49, .iload_n 2, 1), (50, .invokevirtual 218, 3), (53, .ireturn, 1)]
set_option maxRecDepth 20000 in
theorem me_X11_minutes : zdecs cX11_minutes md_X11_minutes := by
  unfold zdecs md_X11_minutes
  decide +kernel
def md_X11_keptIfAny : List (Nat × Instr × Nat) := [(0, .iload_n 1, 1), (1, .ifCond .le 10, 3), (4, .aload_n 0, 1), (5, .getfield 58, 3), (8, .invokevirtual 207, 3), (11, .iload_n 1, 1), (12, .ireturn, 1)]
set_option maxRecDepth 20000 in
theorem me_X11_keptIfAny : zdecs cX11_keptIfAny md_X11_keptIfAny := by
  unfold zdecs md_X11_keptIfAny
  decide +kernel
def md_X11_undo : List (Nat × Instr × Nat) := [(0, .aload_n 0, 1), (1, .getfield 58, 3), (4, .aload_n 0, 1), (5, .getfield 31, 3), (8, .invokevirtual 221, 3), (11, .ireturn, 1)]
set_option maxRecDepth 20000 in
theorem me_X11_undo : zdecs cX11_undo md_X11_undo := by
  unfold zdecs md_X11_undo
  decide +kernel
def md_X11_when : List (Nat × Instr × Nat) := [(0, .aload_n 0, 1), (1, .getfield 67, 3), (4, .iload_n 1, 1), (5, .invokevirtual 225, 3), (8, .ireturn, 1)]
set_option maxRecDepth 20000 in
theorem me_X11_when : zdecs cX11_when md_X11_when := by
  unfold zdecs md_X11_when
  decide +kernel
def md_X11_clear : List (Nat × Instr × Nat) := [(0, .aload_n 0, 1), (1, .getfield 31, 3), (4, .iload_n 1, 1), (5, .invokevirtual 228, 3), (8, .ifCond .ne 18, 3), (11, .aload_n 0, 1), (12, .getfield 67, 3), (15, .aload_n 0, 1), (16, .getfield 31, 3), (19, .iload_n 1, 1), (20, .invokevirtual 231, 3), (23, .goto 4, 3), (26, .iconst (-1), 1), (27, .ireturn, 1)]
set_option maxRecDepth 20000 in
theorem me_X11_clear : zdecs cX11_clear md_X11_clear := by
  unfold zdecs md_X11_clear
  decide +kernel
def md_X11_order : List (Nat × Instr × Nat) := [(0, .aload_n 0, 1), (1, .getfield 67, 3), (4, .aload_n 0, 1), (5, .getfield 10, 3), (8, .invokevirtual 235, 3), (11, .istore_n 1, 1), (12, .aload_n 0, 1), (13, .getfield 10, 3), (16, .iconst 0, 1), (17, .putfield 99, 3), (20, .iload_n 1, 1), (21, .ifCond .eq 13, 3), (24, .aload_n 0, 1), (25, .getfield 67, 3), (28, .invokevirtual 239, 3), (31, .goto 4, 3), (34, .iconst (-1), 1), (35, .ireturn, 1)]
set_option maxRecDepth 20000 in
theorem me_X11_order : zdecs cX11_order md_X11_order := by
  unfold zdecs md_X11_order
  decide +kernel
def md_X11_orderAt : List (Nat × Instr × Nat) := [(0, .iload_n 1, 1), (1, .ifCond .lt 26, 3), (4, .iload_n 1, 1), (5, .aload_n 0, 1), (6, .getfield 67, 3), (9, .getfield 242, 3), (12, .if_icmp .ge 15, 3), (15, .aload_n 0, 1), (16, .getfield 67, 3), (19, .getfield 245, 3), (22, .iload_n 1, 1), (23, .iaload, 1), (24, .goto 4, 3), (27, .iconst (-1), 1), (28, .ireturn, 1)]
set_option maxRecDepth 20000 in
theorem me_X11_orderAt : zdecs cX11_orderAt md_X11_orderAt := by
  unfold zdecs md_X11_orderAt
  decide +kernel
def md_X11_orderWhen : List (Nat × Instr × Nat) := [(0, .iload_n 1, 1), (1, .ifCond .lt 26, 3), (4, .iload_n 1, 1), (5, .aload_n 0, 1), (6, .getfield 67, 3), (9, .getfield 242, 3), (12, .if_icmp .ge 15, 3), (15, .aload_n 0, 1), (16, .getfield 67, 3), (19, .getfield 248, 3), (22, .iload_n 1, 1), (23, .iaload, 1), (24, .goto 4, 3), (27, .iconst (-1), 1), (28, .ireturn, 1)]
set_option maxRecDepth 20000 in
theorem me_X11_orderWhen : zdecs cX11_orderWhen md_X11_orderWhen := by
  unfold zdecs md_X11_orderWhen
  decide +kernel
def md_X11_jam : List (Nat × Instr × Nat) := [(0, .aload_n 0, 1), (1, .getfield 31, 3), (4, .invokevirtual 251, 3), (7, .ireturn, 1)]
set_option maxRecDepth 20000 in
theorem me_X11_jam : zdecs cX11_jam md_X11_jam := by
  unfold zdecs md_X11_jam
  decide +kernel
def md_X11_who : List (Nat × Instr × Nat) := [(0, .aload_n 0, 1), (1, .getfield 74, 3), (4, .aload_n 0, 1), (5, .getfield 10, 3), (8, .invokevirtual 254, 3), (11, .istore_n 1, 1), (12, .aload_n 0, 1), (13, .getfield 10, 3), (16, .iconst 0, 1), (17, .putfield 99, 3), (20, .iload_n 1, 1), (21, .ifCond .le 11, 3), (24, .aload_n 0, 1), (25, .getfield 74, 3), (28, .iload_n 1, 1), (29, .invokevirtual 257, 3), (32, .iload_n 1, 1), (33, .ireturn, 1)]
set_option maxRecDepth 20000 in
theorem me_X11_who : zdecs cX11_who md_X11_who := by
  unfold zdecs md_X11_who
  decide +kernel
def md_X11_ask : List (Nat × Instr × Nat) := [(0, .aload_n 0, 1), (1, .getfield 74, 3), (4, .getfield 260, 3), (7, .ireturn, 1)]
set_option maxRecDepth 20000 in
theorem me_X11_ask : zdecs cX11_ask md_X11_ask := by
  unfold zdecs md_X11_ask
  decide +kernel
def md_X11_near : List (Nat × Instr × Nat) := [(0, .aload_n 0, 1), (1, .getfield 74, 3), (4, .iload_n 1, 1), (5, .invokevirtual 263, 3), (8, .ireturn, 1)]
set_option maxRecDepth 20000 in
theorem me_X11_near : zdecs cX11_near md_X11_near := by
  unfold zdecs md_X11_near
  decide +kernel
def md_X11_through : List (Nat × Instr × Nat) := [(0, .aload_n 0, 1), (1, .getfield 74, 3), (4, .iload_n 1, 1), (5, .invokevirtual 266, 3), (8, .ireturn, 1)]
set_option maxRecDepth 20000 in
theorem me_X11_through : zdecs cX11_through md_X11_through := by
  unfold zdecs md_X11_through
  decide +kernel
def md_X11_gap : List (Nat × Instr × Nat) := [(0, .aload_n 0, 1), (1, .getfield 19, 3), (4, .iload_n 1, 1), (5, .invokevirtual 153, 3), (8, .ifCond .eq 26, 3), (11, .aload_n 0, 1), (12, .getfield 19, 3), (15, .iload_n 2, 1), (16, .invokevirtual 153, 3), (19, .ifCond .eq 15, 3), (22, .aload_n 0, 1), (23, .getfield 74, 3), (26, .iload_n 1, 1), (27, .iload_n 2, 1), (28, .invokevirtual 269, 3), (31, .goto 4, 3), (34, .iconst (-1), 1), (35, .ireturn, 1)]
set_option maxRecDepth 20000 in
theorem me_X11_gap : zdecs cX11_gap md_X11_gap := by
  unfold zdecs md_X11_gap
  decide +kernel
def md_X11_chain : List (Nat × Instr × Nat) := [(0, .aload_n 0, 1), (1, .getfield 74, 3), (4, .invokevirtual 272, 3), (7, .ireturn, 1)]
set_option maxRecDepth 20000 in
theorem me_X11_chain : zdecs cX11_chain md_X11_chain := by
  unfold zdecs md_X11_chain
  decide +kernel
def md_X11_chainAt : List (Nat × Instr × Nat) := [(0, .iload_n 1, 1), (1, .ifCond .lt 26, 3), (4, .iload_n 1, 1), (5, .aload_n 0, 1), (6, .getfield 74, 3), (9, .getfield 275, 3), (12, .if_icmp .ge 15, 3), (15, .aload_n 0, 1), (16, .getfield 74, 3), (19, .getfield 278, 3), (22, .iload_n 1, 1), (23, .iaload, 1), (24, .goto 4, 3), (27, .iconst (-1), 1), (28, .ireturn, 1)]
set_option maxRecDepth 20000 in
theorem me_X11_chainAt : zdecs cX11_chainAt md_X11_chainAt := by
  unfold zdecs md_X11_chainAt
  decide +kernel
def md_X11_load : List (Nat × Instr × Nat) := [(0, .aload_n 0, 1), (1, .getfield 19, 3), (4, .iload_n 1, 1), (5, .invokevirtual 129, 3), (8, .ifCond .eq 14, 3), (11, .iload_n 2, 1), (12, .ifCond .lt 10, 3), (15, .iload_n 2, 1), (16, .sipush 200, 3), (19, .if_icmp .le 5, 3), (22, .iconst (-1), 1), (23, .ireturn, 1), (24, .aload_n 0, 1), (25, .getfield 35, 3), (28, .aload_n 0, 1), (29, .getfield 31, 3), (32, .invokevirtual 281, 3), (35, .aload_n 0, 1), (36, .getfield 35, 3), (39, .iload_n 2, 1), (40, .invokevirtual 215, 3), (43, .aload_n 0, 1), (44, .getfield 35, 3), (47, .iload_n 1, 1), (48, .invokevirtual 144, 3), (51, .ireturn, 1)]
set_option maxRecDepth 20000 in
theorem me_X11_load : zdecs cX11_load md_X11_load := by
  unfold zdecs md_X11_load
  decide +kernel
def md_X11_block : List (Nat × Instr × Nat) := [(0, .aload_n 0, 1), (1, .getfield 31, 3), (4, .iload_n 1, 1), (5, .invokevirtual 283, 3), (8, .ifCond .ne 5, 3), (11, .iconst (-1), 1), (12, .ireturn, 1), (13, .aload_n 0, 1), (14, .getfield 31, 3), (17, .aload_n 0, 1), (18, .getfield 19, 3), (21, .iload_n 1, 1), (22, .aload_n 0, 1), (23, .getfield 31, 3), (26, .iload_n 1, 1), (27, .invokevirtual 286, 3), (30, .invokevirtual 289, 3), (33, .invokevirtual 144, 3), (36, .ireturn, 1)]
set_option maxRecDepth 20000 in
theorem me_X11_block : zdecs cX11_block md_X11_block := by
  unfold zdecs md_X11_block
  decide +kernel
def md_X11_wear : List (Nat × Instr × Nat) := [(0, .aload_n 0, 1), (1, .getfield 19, 3), (4, .iload_n 1, 1), (5, .invokevirtual 129, 3), (8, .ifCond .eq 12, 3), (11, .iload_n 2, 1), (12, .ifCond .lt 8, 3), (15, .iload_n 2, 1), (16, .iconst 1, 1), (17, .if_icmp .le 11, 3), (20, .new 163, 3), (23, .dup, 1), (24, .invokespecial 165, 3), (27, .athrow, 1), (28, .aload_n 0, 1), (29, .getfield 31, 3), (32, .iload_n 1, 1), (33, .invokevirtual 140, 3), (36, .aload_n 0, 1), (37, .getfield 19, 3), (40, .getfield 137, 3), (43, .iload_n 1, 1), (44, .iaload, 1), (45, .iload_n 2, 1), (46, .invokestatic 292, 3), (49, .ireturn, 1)]
set_option maxRecDepth 20000 in
theorem me_X11_wear : zdecs cX11_wear md_X11_wear := by
  unfold zdecs md_X11_wear
  decide +kernel
def md_X11_mean : List (Nat × Instr × Nat) := [(0, .aload_n 0, 1), (1, .getfield 19, 3), (4, .getfield 296, 3), (7, .ifCond .eq 12, 3), (10, .iload_n 1, 1), (11, .ifCond .lt 8, 3), (14, .iload_n 1, 1), (15, .iconst 1, 1), (16, .if_icmp .le 11, 3), (19, .new 163, 3), (22, .dup, 1), (23, .invokespecial 165, 3), (26, .athrow, 1), (27, .aload_n 0, 1), (28, .getfield 31, 3), (31, .invokevirtual 299, 3), (34, .aload_n 0, 1), (35, .getfield 19, 3), (38, .getfield 296, 3), (41, .iload_n 1, 1), (42, .invokestatic 292, 3), (45, .ireturn, 1)]
set_option maxRecDepth 20000 in
theorem me_X11_mean : zdecs cX11_mean md_X11_mean := by
  unfold zdecs md_X11_mean
  decide +kernel
def md_X11_often : List (Nat × Instr × Nat) := [(0, .aload_n 0, 1), (1, .getfield 31, 3), (4, .invokevirtual 302, 3), (7, .ireturn, 1)]
set_option maxRecDepth 20000 in
theorem me_X11_often : zdecs cX11_often md_X11_often := by
  unfold zdecs md_X11_often
  decide +kernel
def md_X11_tag : List (Nat × Instr × Nat) := [(0, .aload_n 0, 1), (1, .getfield 19, 3), (4, .iload_n 1, 1), (5, .invokevirtual 160, 3), (8, .ifCond .ne 5, 3), (11, .iconst (-1), 1), (12, .ireturn, 1), (13, .aload_n 0, 1), (14, .getfield 88, 3), (17, .aload_n 0, 1), (18, .getfield 19, 3), (21, .aload_n 0, 1), (22, .getfield 31, 3), (25, .iload_n 1, 1), (26, .invokevirtual 305, 3), (29, .aload_n 0, 1), (30, .getfield 88, 3), (33, .getfield 309, 3), (36, .ireturn, 1)]
set_option maxRecDepth 20000 in
theorem me_X11_tag : zdecs cX11_tag md_X11_tag := by
  unfold zdecs md_X11_tag
  decide +kernel
def md_X11_byteAt : List (Nat × Instr × Nat) := [(0, .iload_n 1, 1), (1, .ifCond .lt 26, 3), (4, .iload_n 1, 1), (5, .aload_n 0, 1), (6, .getfield 88, 3), (9, .getfield 309, 3), (12, .if_icmp .ge 15, 3), (15, .aload_n 0, 1), (16, .getfield 88, 3), (19, .getfield 310, 3), (22, .iload_n 1, 1), (23, .iaload, 1), (24, .goto 4, 3), (27, .iconst (-1), 1), (28, .ireturn, 1)]
set_option maxRecDepth 20000 in
theorem me_X11_byteAt : zdecs cX11_byteAt md_X11_byteAt := by
  unfold zdecs md_X11_byteAt
  decide +kernel
def md_X11_drawn : List (Nat × Instr × Nat) := [(0, .iload_n 1, 1), (1, .iconst 1, 1), (2, .if_icmp .lt 9, 3), (5, .iload_n 1, 1), (6, .bipush 60, 2), (8, .if_icmp .le 5, 3), (11, .iconst (-1), 1), (12, .ireturn, 1), (13, .aload_n 0, 1), (14, .getfield 58, 3), (17, .aload_n 0, 1), (18, .getfield 31, 3), (21, .invokevirtual 188, 3), (24, .aload_n 0, 1), (25, .aload_n 0, 1), (26, .getfield 81, 3), (29, .aload_n 0, 1), (30, .getfield 31, 3), (33, .iload_n 1, 1), (34, .iload_n 2, 1), (35, .invokevirtual 313, 3), (38, .invokevirtual 218, 3), (41, .ireturn, 1)]
set_option maxRecDepth 20000 in
theorem me_X11_drawn : zdecs cX11_drawn md_X11_drawn := by
  unfold zdecs md_X11_drawn
  decide +kernel
def md_X11_odds : List (Nat × Instr × Nat) := [(0, .aload_n 0, 1), (1, .getfield 19, 3), (4, .iload_n 1, 1), (5, .invokevirtual 160, 3), (8, .ifCond .eq 14, 3), (11, .iload_n 2, 1), (12, .iconst 1, 1), (13, .if_icmp .lt 9, 3), (16, .iload_n 2, 1), (17, .bipush 30, 2), (19, .if_icmp .le 5, 3), (22, .iconst (-1), 1), (23, .ireturn, 1), (24, .iconst 0, 1), (25, .istore 4, 2), (27, .iconst 0, 1), (28, .istore 5, 2), (30, .iload 5, 2), (32, .iload_n 2, 1), (33, .if_icmp .ge 53, 3), (36, .aload_n 0, 1), (37, .getfield 35, 3), (40, .aload_n 0, 1), (41, .getfield 31, 3), (44, .invokevirtual 281, 3), (47, .aload_n 0, 1), (48, .getfield 81, 3), (51, .aload_n 0, 1), (52, .getfield 35, 3), (55, .bipush 40, 2), (57, .iload_n 3, 1), (58, .iload 5, 2), (60, .iadd, 1), (61, .invokevirtual 313, 3), (64, .pop, 1), (65, .aload_n 0, 1), (66, .getfield 35, 3), (69, .iload_n 1, 1), (70, .invokevirtual 228, 3), (73, .iconst 2, 1), (74, .if_icmp .ne 6, 3), (77, .iinc 4 1, 3), (80, .iinc 5 1, 3), (83, .goto (-53), 3), (86, .iload 4, 2), (88, .ireturn, 1)]
set_option maxRecDepth 20000 in
theorem me_X11_odds : zdecs cX11_odds md_X11_odds := by
  unfold zdecs md_X11_odds
  decide +kernel
def md_X11_book : List (Nat × Instr × Nat) := [(0, .iload_n 1, 1), (1, .ifCond .eq 12, 3), (4, .iload_n 1, 1), (5, .iconst 1, 1), (6, .if_icmp .eq 7, 3), (9, .sipush (-1000), 3), (12, .ireturn, 1), (13, .aload_n 0, 1), (14, .getfield 51, 3), (17, .aload_n 0, 1), (18, .getfield 10, 3), (21, .aload_n 0, 1), (22, .getfield 19, 3), (25, .invokevirtual 317, 3), (28, .istore_n 2, 1), (29, .aload_n 0, 1), (30, .getfield 10, 3), (33, .iconst 0, 1), (34, .putfield 99, 3), (37, .iload_n 2, 1), (38, .ifCond .ne 14, 3), (41, .bipush (-2), 2), (43, .aload_n 0, 1), (44, .getfield 10, 3), (47, .getfield 114, 3), (50, .isub, 1), (51, .ireturn, 1), (52, .aload_n 0, 1), (53, .getfield 35, 3), (56, .aload_n 0, 1), (57, .getfield 31, 3), (60, .invokevirtual 281, 3), (63, .aload_n 0, 1), (64, .getfield 51, 3), (67, .aload_n 0, 1), (68, .getfield 35, 3), (71, .invokevirtual 320, 3), (74, .iload_n 1, 1), (75, .iconst 1, 1), (76, .if_icmp .ne 42, 3), (79, .aload_n 0, 1), (80, .getfield 51, 3), (83, .getfield 323, 3), (86, .ifCond .le 32, 3), (89, .aload_n 0, 1), (90, .getfield 58, 3), (93, .aload_n 0, 1), (94, .getfield 31, 3), (97, .invokevirtual 188, 3), (100, .aload_n 0, 1), (101, .getfield 58, 3), (104, .invokevirtual 207, 3), (107, .aload_n 0, 1), (108, .getfield 31, 3), (111, .aload_n 0, 1), (112, .getfield 35, 3), (115, .invokevirtual 281, 3), (118, .aload_n 0, 1), (119, .getfield 51, 3), (122, .getfield 326, 3), (125, .ifCond .ne 7, 3), (128, .iconst (-1), 1), (129, .goto 10, 3), (132, .aload_n 0, 1), (133, .getfield 51, 3), (136, .getfield 323, 3), (139, .ireturn, 1)]
set_option maxRecDepth 20000 in
theorem me_X11_book : zdecs cX11_book md_X11_book := by
  unfold zdecs md_X11_book
  decide +kernel
def md_X11_told : List (Nat × Instr × Nat) := [(0, .aload_n 0, 1), (1, .getfield 51, 3), (4, .iload_n 1, 1), (5, .invokevirtual 329, 3), (8, .ireturn, 1)]
set_option maxRecDepth 20000 in
theorem me_X11_told : zdecs cX11_told md_X11_told := by
  unfold zdecs md_X11_told
  decide +kernel
def md_X11_sentence : List (Nat × Instr × Nat) := [(0, .aload_n 0, 1), (1, .getfield 45, 3), (4, .aload_n 0, 1), (5, .getfield 10, 3), (8, .aload_n 0, 1), (9, .getfield 19, 3), (12, .invokevirtual 332, 3), (15, .istore_n 1, 1), (16, .aload_n 0, 1), (17, .getfield 10, 3), (20, .iconst 0, 1), (21, .putfield 99, 3), (24, .iload_n 1, 1), (25, .ifCond .ne 13, 3), (28, .iconst (-1), 1), (29, .aload_n 0, 1), (30, .getfield 10, 3), (33, .getfield 114, 3), (36, .isub, 1), (37, .ireturn, 1), (38, .aload_n 0, 1), (39, .getfield 41, 3), (42, .aload_n 0, 1), (43, .getfield 45, 3), (46, .invokevirtual 335, 3), (49, .aload_n 0, 1), (50, .getfield 41, 3), (53, .getfield 338, 3), (56, .ireturn, 1)]
set_option maxRecDepth 20000 in
theorem me_X11_sentence : zdecs cX11_sentence md_X11_sentence := by
  unfold zdecs md_X11_sentence
  decide +kernel
def md_X11_said : List (Nat × Instr × Nat) := [(0, .aload_n 0, 1), (1, .getfield 41, 3), (4, .getfield 338, 3), (7, .ifCond .eq 8, 3), (10, .iload_n 1, 1), (11, .iconst (-1), 1), (12, .if_icmp .ge 5, 3), (15, .iconst (-1), 1), (16, .ireturn, 1), (17, .aload_n 0, 1), (18, .getfield 41, 3), (21, .aload_n 0, 1), (22, .getfield 19, 3), (25, .aload_n 0, 1), (26, .getfield 31, 3), (29, .invokevirtual 341, 3), (32, .istore_n 2, 1), (33, .iload_n 1, 1), (34, .iconst (-1), 1), (35, .if_icmp .ne 10, 3), (38, .iload_n 2, 1), (39, .invokestatic 345, 3), (42, .goto 8, 3), (45, .iload_n 2, 1), (46, .iload_n 1, 1), (47, .invokestatic 350, 3), (50, .ireturn, 1)]
set_option maxRecDepth 20000 in
theorem me_X11_said : zdecs cX11_said md_X11_said := by
  unfold zdecs md_X11_said
  decide +kernel
def md_X11_image : List (Nat × Instr × Nat) := [(0, .iload_n 1, 1), (1, .ifCond .lt 12, 3), (4, .iload_n 1, 1), (5, .aload_n 0, 1), (6, .getfield 94, 3), (9, .arraylength, 1), (10, .if_icmp .lt 5, 3), (13, .iconst 0, 1), (14, .ireturn, 1), (15, .aload_n 0, 1), (16, .getfield 94, 3), (19, .iload_n 1, 1), (20, .aaload, 1), (21, .aload_n 0, 1), (22, .getfield 19, 3), (25, .aload_n 0, 1), (26, .getfield 31, 3), (29, .aload_n 0, 1), (30, .getfield 41, 3), (33, .invokevirtual 353, 3), (36, .iconst 1, 1), (37, .ireturn, 1)]
set_option maxRecDepth 20000 in
theorem me_X11_image : zdecs cX11_image md_X11_image := by
  unfold zdecs md_X11_image
  decide +kernel
def md_X11_restore : List (Nat × Instr × Nat) := [(0, .iload_n 1, 1), (1, .ifCond .lt 24, 3), (4, .iload_n 1, 1), (5, .aload_n 0, 1), (6, .getfield 94, 3), (9, .arraylength, 1), (10, .if_icmp .ge 15, 3), (13, .aload_n 0, 1), (14, .getfield 94, 3), (17, .iload_n 1, 1), (18, .aaload, 1), (19, .getfield 357, 3), (22, .ifCond .ne 5, 3), (25, .iconst 0, 1), (26, .ireturn, 1), (27, .aload_n 0, 1), (28, .getfield 94, 3), (31, .iload_n 1, 1), (32, .aaload, 1), (33, .aload_n 0, 1), (34, .getfield 19, 3), (37, .aload_n 0, 1), (38, .getfield 31, 3), (41, .aload_n 0, 1), (42, .getfield 41, 3), (45, .invokevirtual 361, 3), (48, .aload_n 0, 1), (49, .getfield 58, 3), (52, .invokevirtual 126, 3), (55, .iconst 1, 1), (56, .ireturn, 1)]
set_option maxRecDepth 20000 in
theorem me_X11_restore : zdecs cX11_restore md_X11_restore := by
  unfold zdecs md_X11_restore
  decide +kernel
def md_X11_count : List (Nat × Instr × Nat) := [(0, .iload_n 1, 1), (1, .tableswitch 99 0 6 #[43, 51, 59, 67, 75, 83, 91], 43), (44, .aload_n 0, 1), (45, .getfield 19, 3), (48, .getfield 364, 3), (51, .ireturn, 1), (52, .aload_n 0, 1), (53, .getfield 19, 3), (56, .getfield 367, 3), (59, .ireturn, 1), (60, .aload_n 0, 1), (61, .getfield 19, 3), (64, .getfield 296, 3), (67, .ireturn, 1), (68, .aload_n 0, 1), (69, .getfield 19, 3), (72, .getfield 369, 3), (75, .ireturn, 1), (76, .aload_n 0, 1), (77, .getfield 19, 3), (80, .getfield 372, 3), (83, .ireturn, 1), (84, .aload_n 0, 1), (85, .getfield 19, 3), (88, .getfield 375, 3), (91, .ireturn, 1), (92, .aload_n 0, 1), (93, .getfield 10, 3), (96, .getfield 99, 3), (99, .ireturn, 1), (100, .iconst (-1), 1), (101, .ireturn, 1)]
set_option maxRecDepth 20000 in
theorem me_X11_count : zdecs cX11_count md_X11_count := by
  unfold zdecs md_X11_count
  decide +kernel
def md_X11_bitAt : List (Nat × Instr × Nat) := [(0, .iconst 0, 1), (1, .istore_n 2, 1), (2, .iconst 0, 1), (3, .istore_n 3, 1), (4, .iload_n 3, 1), (5, .bipush 8, 2), (7, .if_icmp .ge 27, 3), (10, .iload_n 0, 1), (11, .iload_n 3, 1), (12, .ishr, 1), (13, .iconst 1, 1), (14, .iand, 1), (15, .ifCond .eq 13, 3), (18, .iload_n 2, 1), (19, .iload_n 1, 1), (20, .if_icmp .ne 5, 3), (23, .iload_n 3, 1), (24, .ireturn, 1), (25, .iinc 2 1, 3), (28, .iinc 3 1, 3), (31, .goto (-27), 3), (34, .iconst (-1), 1), (35, .ireturn, 1)]
set_option maxRecDepth 20000 in
theorem me_X11_bitAt : zdecs cX11_bitAt md_X11_bitAt := by
  unfold zdecs md_X11_bitAt
  decide +kernel
def md_X11_inLeastTerms : List (Nat × Instr × Nat) := [(0, .iload_n 1, 1), (1, .istore_n 3, 1), (2, .iload_n 0, 1), (3, .istore 4, 2), (5, .iconst 0, 1), (6, .istore 5, 2), (8, .iload 5, 2), (10, .ldc_w 378, 3), (13, .if_icmp .ge 31, 3), (16, .iload 4, 2), (18, .ifCond .eq 26, 3), (21, .iload_n 3, 1), (22, .ifCond .eq 22, 3), (25, .iload_n 3, 1), (26, .iload 4, 2), (28, .irem, 1), (29, .istore 6, 2), (31, .iload 4, 2), (33, .istore_n 3, 1), (34, .iload 6, 2), (36, .istore 4, 2), (38, .iinc 5 1, 3), (41, .goto (-33), 3), (44, .iload_n 2, 1), (45, .ifCond .ne 7, 3), (48, .iload_n 0, 1), (49, .goto 4, 3), (52, .iload_n 1, 1), (53, .istore 5, 2), (55, .iload_n 3, 1), (56, .ifCond .ne 8, 3), (59, .iload 5, 2), (61, .goto 7, 3), (64, .iload 5, 2), (66, .iload_n 3, 1), (67, .idiv, 1), (68, .ireturn, 1)]
set_option maxRecDepth 20000 in
theorem me_X11_inLeastTerms : zdecs cX11_inLeastTerms md_X11_inLeastTerms := by
  unfold zdecs md_X11_inLeastTerms
  decide +kernel
def md_X11_makeNextRow : List (Nat × Instr × Nat) := [(0, .iload_n 1, 1), (1, .iconst 2, 1), (2, .isub, 1), (3, .istore_n 2, 1), (4, .iload_n 2, 1), (5, .ifCond .lt 20, 3), (8, .aload_n 0, 1), (9, .iload_n 2, 1), (10, .iaload, 1), (11, .aload_n 0, 1), (12, .iload_n 2, 1), (13, .iconst 1, 1), (14, .iadd, 1), (15, .iaload, 1), (16, .if_icmp .lt 9, 3), (19, .iinc 2 (-1), 3), (22, .goto (-18), 3), (25, .iload_n 2, 1), (26, .ifCond .ge 5, 3), (29, .iconst 0, 1), (30, .ireturn, 1), (31, .iload_n 1, 1), (32, .iconst 1, 1), (33, .isub, 1), (34, .istore_n 3, 1), (35, .iload_n 3, 1), (36, .iload_n 2, 1), (37, .if_icmp .le 18, 3), (40, .aload_n 0, 1), (41, .iload_n 3, 1), (42, .iaload, 1), (43, .aload_n 0, 1), (44, .iload_n 2, 1), (45, .iaload, 1), (46, .if_icmp .gt 9, 3), (49, .iinc 3 (-1), 3), (52, .goto (-17), 3), (55, .aload_n 0, 1), (56, .iload_n 2, 1), (57, .iload_n 3, 1), (58, .invokestatic 379, 3), (61, .iload_n 1, 1), (62, .iconst 1, 1), (63, .isub, 1), (64, .istore 4, 2), (66, .iload_n 2, 1), (67, .iconst 1, 1), (68, .iadd, 1), (69, .istore 5, 2), (71, .iload 5, 2), (73, .iload 4, 2), (75, .if_icmp .ge 20, 3), (78, .aload_n 0, 1), (79, .iload 5, 2), (81, .iload 4, 2), (83, .invokestatic 379, 3), (86, .iinc 4 (-1), 3), (89, .iinc 5 1, 3), (92, .goto (-21), 3), (95, .iconst 1, 1), (96, .ireturn, 1)]
set_option maxRecDepth 20000 in
theorem me_X11_makeNextRow : zdecs cX11_makeNextRow md_X11_makeNextRow := by
  unfold zdecs md_X11_makeNextRow
  decide +kernel
def md_X11_swap : List (Nat × Instr × Nat) := [(0, .aload_n 0, 1), (1, .iload_n 1, 1), (2, .iaload, 1), (3, .istore_n 3, 1), (4, .aload_n 0, 1), (5, .iload_n 1, 1), (6, .aload_n 0, 1), (7, .iload_n 2, 1), (8, .iaload, 1), (9, .iastore, 1), (10, .aload_n 0, 1), (11, .iload_n 2, 1), (12, .iload_n 3, 1), (13, .iastore, 1), (14, .return_, 1)]
set_option maxRecDepth 20000 in
theorem me_X11_swap : zdecs cX11_swap md_X11_swap := by
  unfold zdecs md_X11_swap
  decide +kernel
def md_J6_bitCount_0f7a4 : List (Nat × Instr × Nat) := [(0, .iload_n 0, 1), (1, .iload_n 0, 1), (2, .iconst 1, 1), (3, .iushr, 1), (4, .ldc_w 265, 3), (7, .iand, 1), (8, .isub, 1), (9, .istore_n 0, 1), (10, .iload_n 0, 1), (11, .ldc_w 266, 3), (14, .iand, 1), (15, .iload_n 0, 1), (16, .iconst 2, 1), (17, .iushr, 1), (18, .ldc_w 266, 3), (21, .iand, 1), (22, .iadd, 1), (23, .istore_n 0, 1), (24, .iload_n 0, 1), (25, .iload_n 0, 1), (26, .iconst 4, 1), (27, .iushr, 1), (28, .iadd, 1), (29, .ldc_w 267, 3), (32, .iand, 1), (33, .istore_n 0, 1), (34, .iload_n 0, 1), (35, .iload_n 0, 1), (36, .bipush 8, 2), (38, .iushr, 1), (39, .iadd, 1), (40, .istore_n 0, 1), (41, .iload_n 0, 1), (42, .iload_n 0, 1), (43, .bipush 16, 2), (45, .iushr, 1), (46, .iadd, 1), (47, .istore_n 0, 1), (48, .iload_n 0, 1), (49, .bipush 63, 2), (51, .iand, 1), (52, .ireturn, 1)]
set_option maxRecDepth 20000 in
theorem me_J6_bitCount_0f7a4 : zdecs cJ6_bitCount_0f7a4 md_J6_bitCount_0f7a4 := by
  unfold zdecs md_J6_bitCount_0f7a4
  decide +kernel
def md_J0_length_8abf5 : List (Nat × Instr × Nat) := [(0, .aload_n 0, 1), (1, .getfield 9, 3), (4, .arraylength, 1), (5, .aload_n 0, 1), (6, .invokevirtual 335, 3), (9, .ishr, 1), (10, .ireturn, 1)]
set_option maxRecDepth 20000 in
theorem me_J0_length_8abf5 : zdecs cJ0_length_8abf5 md_J0_length_8abf5 := by
  unfold zdecs md_J0_length_8abf5
  decide +kernel
def md_J0_charAt_5068e : List (Nat × Instr × Nat) := [(0, .aload_n 0, 1), (1, .invokevirtual 492, 3), (4, .ifCond .eq 12, 3), (7, .aload_n 0, 1), (8, .getfield 9, 3), (11, .iload_n 1, 1), (12, .invokestatic 495, 3), (15, .ireturn, 1), (16, .aload_n 0, 1), (17, .getfield 9, 3), (20, .iload_n 1, 1), (21, .invokestatic 498, 3), (24, .ireturn, 1)]
set_option maxRecDepth 20000 in
theorem me_J0_charAt_5068e : zdecs cJ0_charAt_5068e md_J0_charAt_5068e := by
  unfold zdecs md_J0_charAt_5068e
  decide +kernel
def md_J0_coder_7d493 : List (Nat × Instr × Nat) := [(0, .getstatic 38, 3), (3, .ifCond .eq 10, 3), (6, .aload_n 0, 1), (7, .getfield 15, 3), (10, .goto 4, 3), (13, .iconst 1, 1), (14, .ireturn, 1)]
set_option maxRecDepth 20000 in
theorem me_J0_coder_7d493 : zdecs cJ0_coder_7d493 md_J0_coder_7d493 := by
  unfold zdecs md_J0_coder_7d493
  decide +kernel
def md_J0_isLatin1_aae02 : List (Nat × Instr × Nat) := [(0, .getstatic 38, 3), (3, .ifCond .eq 14, 3), (6, .aload_n 0, 1), (7, .getfield 15, 3), (10, .ifCond .ne 7, 3), (13, .iconst 1, 1), (14, .goto 4, 3), (17, .iconst 0, 1), (18, .ireturn, 1)]
set_option maxRecDepth 20000 in
theorem me_J0_isLatin1_aae02 : zdecs cJ0_isLatin1_aae02 md_J0_isLatin1_aae02 := by
  unfold zdecs md_J0_isLatin1_aae02
  decide +kernel
def md_J0_checkIndex_df160 : List (Nat × Instr × Nat) := [(0, .iload_n 0, 1), (1, .iload_n 1, 1), (2, .getstatic 1053, 3), (5, .invokestatic 1059, 3), (8, .pop, 1), (9, .return_, 1)]
set_option maxRecDepth 20000 in
theorem me_J0_checkIndex_df160 : zdecs cJ0_checkIndex_df160 md_J0_checkIndex_df160 := by
  unfold zdecs md_J0_checkIndex_df160
  decide +kernel
def md_J1_charAt_3b067 : List (Nat × Instr × Nat) := [(0, .iload_n 1, 1), (1, .aload_n 0, 1), (2, .arraylength, 1), (3, .invokestatic 9, 3), (6, .aload_n 0, 1), (7, .iload_n 1, 1), (8, .baload, 1), (9, .sipush 255, 3), (12, .iand, 1), (13, .i2c, 1), (14, .ireturn, 1)]
set_option maxRecDepth 20000 in
theorem me_J1_charAt_3b067 : zdecs cJ1_charAt_3b067 md_J1_charAt_3b067 := by
  unfold zdecs md_J1_charAt_3b067
  decide +kernel
def md_J2_getChar_3b067 : List (Nat × Instr × Nat) := [(0, .getstatic 44, 3), (3, .ifCond .ne 25, 3), (6, .iload_n 1, 1), (7, .ifCond .lt 11, 3), (10, .iload_n 1, 1), (11, .aload_n 0, 1), (12, .invokestatic 48, 3), (15, .if_icmp .lt 13, 3), (18, .new 52, 3), (21, .dup, 1), (22, .ldc 54, 2), (24, .invokespecial 56, 3), (27, .athrow, 1), (28, .iload_n 1, 1), (29, .iconst 1, 1), (30, .ishl, 1), (31, .istore_n 1, 1), (32, .aload_n 0, 1), (33, .iload_n 1, 1), (34, .iinc 1 1, 3), (37, .baload, 1), (38, .sipush 255, 3), (41, .iand, 1), (42, .getstatic 59, 3), (45, .ishl, 1), (46, .aload_n 0, 1), (47, .iload_n 1, 1), (48, .baload, 1), (49, .sipush 255, 3), (52, .iand, 1), (53, .getstatic 63, 3), (56, .ishl, 1), (57, .ior, 1), (58, .i2c, 1), (59, .ireturn, 1)]
set_option maxRecDepth 20000 in
theorem me_J2_getChar_3b067 : zdecs cJ2_getChar_3b067 md_J2_getChar_3b067 := by
  unfold zdecs md_J2_getChar_3b067
  decide +kernel
def md_J2_length_9d52b : List (Nat × Instr × Nat) := [(0, .aload_n 0, 1), (1, .arraylength, 1), (2, .iconst 1, 1), (3, .ishr, 1), (4, .ireturn, 1)]
set_option maxRecDepth 20000 in
theorem me_J2_length_9d52b : zdecs cJ2_length_9d52b md_J2_length_9d52b := by
  unfold zdecs md_J2_length_9d52b
  decide +kernel
def md_J2_charAt_3b067 : List (Nat × Instr × Nat) := [(0, .iload_n 1, 1), (1, .aload_n 0, 1), (2, .invokestatic 67, 3), (5, .aload_n 0, 1), (6, .iload_n 1, 1), (7, .invokestatic 71, 3), (10, .ireturn, 1)]
set_option maxRecDepth 20000 in
theorem me_J2_charAt_3b067 : zdecs cJ2_charAt_3b067 md_J2_charAt_3b067 := by
  unfold zdecs md_J2_charAt_3b067
  decide +kernel
def md_J2_checkIndex_2214a : List (Nat × Instr × Nat) := [(0, .iload_n 0, 1), (1, .aload_n 1, 1), (2, .invokestatic 48, 3), (5, .invokestatic 414, 3), (8, .return_, 1)]
set_option maxRecDepth 20000 in
theorem me_J2_checkIndex_2214a : zdecs cJ2_checkIndex_2214a md_J2_checkIndex_2214a := by
  unfold zdecs md_J2_checkIndex_2214a
  decide +kernel
def md_J3_checkIndex_8e157 : List (Nat × Instr × Nat) := [(0, .iload_n 0, 1), (1, .ifCond .lt 8, 3), (4, .iload_n 0, 1), (5, .iload_n 1, 1), (6, .if_icmp .lt 10, 3), (9, .aload_n 2, 1), (10, .iload_n 0, 1), (11, .iload_n 1, 1), (12, .invokestatic 95, 3), (15, .athrow, 1), (16, .iload_n 0, 1), (17, .ireturn, 1)]
set_option maxRecDepth 20000 in
theorem me_J3_checkIndex_8e157 : zdecs cJ3_checkIndex_8e157 md_J3_checkIndex_8e157 := by
  unfold zdecs md_J3_checkIndex_8e157
  decide +kernel
