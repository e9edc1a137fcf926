def bPt_endOf : List BLK := [
  (0, [(0, .iload_n 1, 0, 0, 0)], (1, .ifCond .lt 20, 21, 4, 0)),
  (4, [(4, .iload_n 1, 0, 0, 0), (5, .aload_n 0, 0, 0, 0), (6, .getfield 32, 5, 6, 265)], (9, .if_icmp .ge 12, 21, 12, 0)),
  (12, [(12, .aload_n 0, 0, 0, 0), (13, .getfield 19, 5, 2, 261), (16, .iload_n 1, 0, 0, 0), (17, .iaload, 0, 0, 0)], (18, .goto 4, 22, 21, 0)),
  (21, [(21, .iconst (-1), 0, 1, 0)], (22, .nop, 0, 0, 0)),
  (22, [], (22, .ireturn, 0, 0, 0))]
def mPt_endOf : MR := (⟨"PageFormatter$Parting", "endOf", "(I)I"⟩, prog_7_method_2_code, 2, (Option.some Jvm.ClassFile.FieldType.int), 0, 0, bPt_endOf, 424, 422, 423, 62, 1)
set_option maxRecDepth 100000 in
theorem okPt_endOf : MOK mPt_endOf := ⟨by decide +kernel, by decide +kernel⟩
def bPt_fact : List BLK := [
  (0, [(0, .iload_n 1, 0, 0, 0)], (1, .ifCond .lt 11, 12, 4, 0)),
  (4, [(4, .iload_n 1, 0, 0, 0), (5, .aload_n 0, 0, 0, 0), (6, .getfield 32, 5, 6, 265)], (9, .if_icmp .lt 5, 14, 12, 0)),
  (12, [(12, .iconst (-1), 0, 1, 0)], (13, .ireturn, 0, 0, 0)),
  (14, [(14, .iload_n 2, 0, 0, 0)], (15, .ifCond .lt 23, 38, 18, 0)),
  (18, [(18, .iload_n 2, 0, 0, 0), (19, .bipush 6, 6, 0, 0)], (21, .if_icmp .ge 17, 38, 24, 0)),
  (24, [(24, .aload_n 0, 0, 0, 0), (25, .getfield 22, 5, 3, 262), (28, .bipush 6, 6, 0, 0), (30, .iload_n 1, 0, 0, 0), (31, .imul, 0, 0, 0), (32, .iload_n 2, 0, 0, 0), (33, .iadd, 0, 0, 0), (34, .iaload, 0, 0, 0)], (35, .goto 5, 40, 38, 0)),
  (38, [(38, .bipush (-2), 1, 1, 0)], (40, .nop, 0, 0, 0)),
  (40, [], (40, .ireturn, 0, 0, 0))]
def mPt_fact : MR := (⟨"PageFormatter$Parting", "fact", "(II)I"⟩, prog_7_method_3_code, 3, (Option.some Jvm.ClassFile.FieldType.int), 0, 0, bPt_fact, 455, 453, 454, 62, 2)
set_option maxRecDepth 100000 in
theorem okPt_fact : MOK mPt_fact := ⟨by decide +kernel, by decide +kernel⟩
def bPt_weighWays : List BLK := [
  (0, [(0, .aload_n 0, 0, 0, 0), (1, .iload_n 2, 0, 0, 0), (2, .putfield 25, 5, 4, 263), (5, .aload_n 0, 0, 0, 0), (6, .iload_n 3, 0, 0, 0), (7, .putfield 29, 5, 5, 264), (10, .aload_n 1, 0, 0, 0), (11, .getfield 41, 4, 5, 232), (14, .sipush 4000, 4000, 0, 0)], (17, .invokestatic 46, 0, 20, 361)),
  (20, [(20, .istore 4, 0, 0, 0), (22, .iconst 0, 0, 0, 0), (23, .istore 5, 0, 0, 0)], (25, .nop, 0, 0, 0)),
  (25, [(25, .iload 5, 0, 0, 0), (27, .iconst 3, 3, 0, 0)], (28, .if_icmp .ge 22, 50, 31, 0)),
  (31, [(31, .aload_n 0, 0, 0, 0), (32, .getfield 11, 5, 0, 259), (35, .iconst 3, 3, 0, 0), (36, .iload 4, 0, 0, 0), (38, .imul, 0, 0, 0), (39, .iload 5, 0, 0, 0), (41, .iadd, 0, 0, 0), (42, .lconst 0, 0, 0, 0), (43, .lastore, 0, 0, 0), (44, .iinc 5 1, 1, 0, 0)], (47, .goto (-22), 25, 50, 0)),
  (50, [(50, .iload 4, 0, 0, 0), (52, .iconst 1, 1, 0, 0), (53, .isub, 0, 0, 0), (54, .istore 5, 0, 0, 0)], (56, .nop, 0, 0, 0)),
  (56, [(56, .iload 5, 0, 0, 0)], (58, .ifCond .lt 18, 76, 61, 0)),
  (61, [(61, .aload_n 0, 0, 0, 0), (62, .aload_n 1, 0, 0, 0), (63, .iload 5, 0, 0, 0), (65, .iload 4, 0, 0, 0)], (67, .invokevirtual 52, 0, 70, 364)),
  (70, [(70, .iinc 5 (-1), 0, 1, 0)], (73, .goto (-17), 56, 76, 0)),
  (76, [], (76, .return_, 0, 0, 0))]
def mPt_weighWays : MR := (⟨"PageFormatter$Parting", "weighWays", "(LPageFormatter$Paragraph;II)V"⟩, prog_7_method_4_code, 6, (Option.none : Option Jvm.ClassFile.FieldType), 3, 77, bPt_weighWays, 360, 358, 359, 62, 3)
set_option maxRecDepth 100000 in
theorem okPt_weighWays : MOK mPt_weighWays := ⟨by decide +kernel, by decide +kernel⟩
def bPt_takeBestWay : List BLK := [
  (0, [(0, .aload_n 1, 0, 0, 0), (1, .getfield 41, 4, 5, 232), (4, .sipush 4000, 4000, 0, 0)], (7, .invokestatic 46, 0, 10, 361)),
  (10, [(10, .istore_n 2, 0, 0, 0), (11, .iconst 0, 0, 0, 0), (12, .istore_n 3, 0, 0, 0), (13, .iconst 1, 1, 0, 0), (14, .istore 4, 0, 0, 0), (16, .aload_n 0, 0, 0, 0), (17, .iconst 0, 0, 0, 0), (18, .putfield 32, 5, 6, 265), (21, .aload_n 0, 0, 0, 0), (22, .aload_n 0, 0, 0, 0), (23, .getfield 11, 5, 0, 259), (26, .iconst 1, 1, 0, 0), (27, .laload, 0, 0, 0), (28, .ldc2_w 56, 8192, 0, 396), (31, .ldiv, 0, 0, 0), (32, .putfield 37, 5, 7, 267)], (35, .nop, 0, 0, 0)),
  (35, [(35, .iload_n 3, 0, 0, 0)], (36, .ifCond .lt 85, 121, 39, 0)),
  (39, [(39, .iload_n 3, 0, 0, 0), (40, .iload_n 2, 0, 0, 0)], (41, .if_icmp .ge 80, 121, 44, 0)),
  (44, [(44, .aload_n 0, 0, 0, 0), (45, .getfield 32, 5, 6, 265), (48, .sipush 4000, 4000, 0, 0)], (51, .if_icmp .ge 70, 121, 54, 0)),
  (54, [(54, .aload_n 0, 0, 0, 0), (55, .getfield 15, 5, 1, 260), (58, .iconst 3, 3, 0, 0), (59, .iload_n 3, 0, 0, 0), (60, .imul, 0, 0, 0), (61, .iload 4, 0, 0, 0), (63, .iadd, 0, 0, 0), (64, .iaload, 0, 0, 0), (65, .istore 5, 0, 0, 0), (67, .aload_n 0, 0, 0, 0), (68, .aload_n 1, 0, 0, 0), (69, .iload_n 3, 0, 0, 0), (70, .iload 5, 0, 0, 0), (72, .iload 5, 0, 0, 0), (74, .iload_n 2, 0, 0, 0)], (75, .if_icmp .ne 7, 82, 78, 0)),
  (78, [(78, .iconst 1, 1, 0, 0)], (79, .goto 4, 83, 82, 0)),
  (82, [(82, .iconst 0, 0, 0, 0)], (83, .nop, 0, 0, 0)),
  (83, [], (83, .invokevirtual 58, 0, 86, 414)),
  (86, [(86, .aload_n 0, 0, 0, 0), (87, .getfield 22, 5, 3, 262), (90, .bipush 6, 6, 0, 0), (92, .aload_n 0, 0, 0, 0), (93, .getfield 32, 5, 6, 265), (96, .imul, 0, 0, 0), (97, .iconst 2, 2, 0, 0), (98, .iadd, 0, 0, 0), (99, .iaload, 0, 0, 0)], (100, .invokestatic 62, 0, 103, 393)),
  (103, [(103, .istore 4, 0, 0, 0), (105, .aload_n 0, 0, 0, 0), (106, .dup, 0, 0, 0), (107, .getfield 32, 5, 6, 265), (110, .iconst 1, 1, 0, 0), (111, .iadd, 0, 0, 0), (112, .putfield 32, 5, 6, 265), (115, .iload 5, 0, 0, 0), (117, .istore_n 3, 0, 0, 0)], (118, .goto (-83), 35, 121, 0)),
  (121, [], (121, .return_, 0, 0, 0))]
def mPt_takeBestWay : MR := (⟨"PageFormatter$Parting", "takeBestWay", "(LPageFormatter$Paragraph;)V"⟩, prog_7_method_5_code, 6, (Option.none : Option Jvm.ClassFile.FieldType), 3, 73, bPt_takeBestWay, 413, 411, 412, 62, 1)
set_option maxRecDepth 100000 in
theorem okPt_takeBestWay : MOK mPt_takeBestWay := ⟨by decide +kernel, by decide +kernel⟩
def bPt_roomFrom : List BLK := [
  (0, [(0, .iload_n 1, 0, 0, 0)], (1, .ifCond .ne 10, 11, 4, 0)),
  (4, [(4, .aload_n 0, 0, 0, 0), (5, .getfield 25, 5, 4, 263)], (8, .goto 7, 15, 11, 0)),
  (11, [(11, .aload_n 0, 0, 0, 0), (12, .getfield 29, 5, 5, 264)], (15, .nop, 0, 0, 0)),
  (15, [], (15, .ireturn, 0, 0, 0))]
def mPt_roomFrom : MR := (⟨"PageFormatter$Parting", "roomFrom", "(I)I"⟩, prog_7_method_6_code, 2, (Option.some Jvm.ClassFile.FieldType.int), 0, 0, bPt_roomFrom, 371, 370, 4, 62, 1)
set_option maxRecDepth 100000 in
theorem okPt_roomFrom : MOK mPt_roomFrom := ⟨by decide +kernel, by decide +kernel⟩
def bPt_weighLinesFrom : List BLK := [
  (0, [(0, .aload_n 0, 0, 0, 0), (1, .iload_n 2, 0, 0, 0)], (2, .invokevirtual 66, 0, 5, 368)),
  (5, [(5, .istore 4, 0, 0, 0), (7, .iconst 0, 0, 0, 0), (8, .istore 5, 0, 0, 0)], (10, .nop, 0, 0, 0)),
  (10, [(10, .iload 5, 0, 0, 0), (12, .iconst 3, 3, 0, 0)], (13, .if_icmp .ge 23, 36, 16, 0)),
  (16, [(16, .aload_n 0, 0, 0, 0), (17, .getfield 11, 5, 0, 259), (20, .iconst 3, 3, 0, 0), (21, .iload_n 2, 0, 0, 0), (22, .imul, 0, 0, 0), (23, .iload 5, 0, 0, 0), (25, .iadd, 0, 0, 0), (26, .ldc2_w 71, 9223372036854775807, 0, 372), (29, .lastore, 0, 0, 0), (30, .iinc 5 1, 1, 0, 0)], (33, .goto (-23), 10, 36, 0)),
  (36, [(36, .iload_n 2, 0, 0, 0), (37, .iconst 1, 1, 0, 0), (38, .iadd, 0, 0, 0), (39, .istore 5, 0, 0, 0)], (41, .nop, 0, 0, 0)),
  (41, [(41, .iload 5, 0, 0, 0), (43, .iload_n 3, 0, 0, 0)], (44, .if_icmp .gt 142, 186, 47, 0)),
  (47, [(47, .aload_n 1, 0, 0, 0), (48, .iload_n 2, 0, 0, 0), (49, .iload 5, 0, 0, 0)], (51, .invokevirtual 73, 0, 54, 373)),
  (54, [(54, .istore 6, 0, 0, 0), (56, .iload 6, 0, 0, 0), (58, .iload 4, 0, 0, 0)], (60, .if_icmp .le 14, 74, 63, 0)),
  (63, [(63, .iload 5, 0, 0, 0), (65, .iload_n 2, 0, 0, 0), (66, .iconst 1, 1, 0, 0), (67, .iadd, 0, 0, 0)], (68, .if_icmp .le 6, 74, 71, 0)),
  (71, [], (71, .goto 115, 186, 74, 0)),
  (74, [(74, .iload 6, 0, 0, 0), (76, .iload 4, 0, 0, 0), (78, .aload_n 1, 0, 0, 0), (79, .iload_n 2, 0, 0, 0), (80, .iload 5, 0, 0, 0)], (82, .invokevirtual 76, 0, 85, 389)),
  (85, [(85, .iload 5, 0, 0, 0), (87, .iload_n 3, 0, 0, 0)], (88, .if_icmp .ne 7, 95, 91, 0)),
  (91, [(91, .iconst 1, 1, 0, 0)], (92, .goto 4, 96, 95, 0)),
  (95, [(95, .iconst 0, 0, 0, 0)], (96, .nop, 0, 0, 0)),
  (96, [], (96, .invokestatic 79, 0, 99, 390)),
  (99, [(99, .istore 7, 0, 0, 0), (101, .iload 7, 0, 0, 0)], (103, .invokestatic 62, 0, 106, 393)),
  (106, [(106, .istore 8, 0, 0, 0), (108, .ldc2_w 56, 8192, 0, 396), (111, .aload_n 1, 0, 0, 0), (112, .iload_n 2, 0, 0, 0), (113, .iload 5, 0, 0, 0), (115, .iload 7, 0, 0, 0)], (117, .invokestatic 83, 0, 120, 397)),
  (120, [(120, .lmul, 0, 0, 0), (121, .lconst 1, 0, 0, 0), (122, .ladd, 0, 0, 0), (123, .aload_n 0, 0, 0, 0), (124, .getfield 11, 5, 0, 259), (127, .iconst 3, 3, 0, 0), (128, .iload 5, 0, 0, 0), (130, .imul, 0, 0, 0), (131, .iload 8, 0, 0, 0), (133, .iadd, 0, 0, 0), (134, .laload, 0, 0, 0), (135, .ladd, 0, 0, 0), (136, .lstore 9, 0, 0, 0), (138, .iconst 0, 0, 0, 0), (139, .istore 11, 0, 0, 0)], (141, .nop, 0, 0, 0)),
  (141, [(141, .iload 11, 0, 0, 0), (143, .iconst 3, 3, 0, 0)], (144, .if_icmp .ge 36, 180, 147, 0)),
  (147, [(147, .aload_n 0, 0, 0, 0), (148, .iconst 3, 3, 0, 0), (149, .iload_n 2, 0, 0, 0), (150, .imul, 0, 0, 0), (151, .iload 11, 0, 0, 0), (153, .iadd, 0, 0, 0), (154, .iload 5, 0, 0, 0), (156, .lload 9, 0, 0, 0), (158, .ldc2_w 56, 8192, 0, 396), (161, .iload 11, 0, 0, 0), (163, .iload 8, 0, 0, 0)], (165, .invokestatic 87, 0, 168, 403)),
  (168, [(168, .i2l, 0, 0, 0), (169, .lmul, 0, 0, 0), (170, .ladd, 0, 0, 0)], (171, .invokevirtual 90, 0, 174, 406)),
  (174, [(174, .iinc 11 1, 1, 0, 0)], (177, .goto (-36), 141, 180, 0)),
  (180, [(180, .iinc 5 1, 1, 0, 0)], (183, .goto (-142), 41, 186, 0)),
  (186, [], (186, .return_, 0, 0, 0))]
def mPt_weighLinesFrom : MR := (⟨"PageFormatter$Parting", "weighLinesFrom", "(LPageFormatter$Paragraph;II)V"⟩, prog_7_method_7_code, 12, (Option.none : Option Jvm.ClassFile.FieldType), 2, 46, bPt_weighLinesFrom, 367, 366, 3, 62, 3)
set_option maxRecDepth 100000 in
theorem okPt_weighLinesFrom : MOK mPt_weighLinesFrom := ⟨by decide +kernel, by decide +kernel⟩
def bPt_keepIfLess : List BLK := [
  (0, [(0, .iload_n 1, 0, 0, 0)], (1, .ifCond .lt 37, 38, 4, 0)),
  (4, [(4, .iload_n 1, 0, 0, 0), (5, .aload_n 0, 0, 0, 0), (6, .getfield 11, 5, 0, 259), (9, .arraylength, 0, 0, 0)], (10, .if_icmp .ge 28, 38, 13, 0)),
  (13, [(13, .lload_n 3, 0, 0, 0), (14, .aload_n 0, 0, 0, 0), (15, .getfield 11, 5, 0, 259), (18, .iload_n 1, 0, 0, 0), (19, .laload, 0, 0, 0), (20, .lcmp, 0, 0, 0)], (21, .ifCond .ge 17, 38, 24, 0)),
  (24, [(24, .aload_n 0, 0, 0, 0), (25, .getfield 11, 5, 0, 259), (28, .iload_n 1, 0, 0, 0), (29, .lload_n 3, 0, 0, 0), (30, .lastore, 0, 0, 0), (31, .aload_n 0, 0, 0, 0), (32, .getfield 15, 5, 1, 260), (35, .iload_n 1, 0, 0, 0), (36, .iload_n 2, 0, 0, 0), (37, .iastore, 0, 0, 0)], (38, .nop, 0, 0, 0)),
  (38, [], (38, .return_, 0, 0, 0))]
def mPt_keepIfLess : MR := (⟨"PageFormatter$Parting", "keepIfLess", "(IIJ)V"⟩, prog_7_method_8_code, 5, (Option.none : Option Jvm.ClassFile.FieldType), 0, 0, bPt_keepIfLess, 409, 408, 5, 62, 3)
set_option maxRecDepth 100000 in
theorem okPt_keepIfLess : MOK mPt_keepIfLess := ⟨by decide +kernel, by decide +kernel⟩
def bPt_badnessOf : List BLK := [
  (0, [(0, .iload_n 0, 0, 0, 0), (1, .iload_n 1, 0, 0, 0)], (2, .if_icmp .le 7, 9, 5, 0)),
  (5, [(5, .sipush 10000, 10000, 0, 0)], (8, .ireturn, 0, 0, 0)),
  (9, [(9, .iload_n 1, 0, 0, 0), (10, .iload_n 0, 0, 0, 0), (11, .isub, 0, 0, 0), (12, .istore 4, 0, 0, 0), (14, .iload_n 3, 0, 0, 0)], (15, .ifCond .ne 8, 23, 18, 0)),
  (18, [(18, .iload 4, 0, 0, 0)], (20, .ifCond .ne 5, 25, 23, 0)),
  (23, [(23, .iconst 0, 0, 0, 0)], (24, .ireturn, 0, 0, 0)),
  (25, [(25, .iload_n 2, 0, 0, 0)], (26, .ifCond .le 12, 38, 29, 0)),
  (29, [(29, .iload 4, 0, 0, 0), (31, .bipush 20, 20, 0, 0), (33, .iload_n 2, 0, 0, 0), (34, .imul, 0, 0, 0)], (35, .if_icmp .le 7, 42, 38, 0)),
  (38, [(38, .sipush 10000, 10000, 0, 0)], (41, .ireturn, 0, 0, 0)),
  (42, [(42, .sipush 10000, 10000, 0, 0), (45, .bipush 100, 100, 0, 0), (47, .iload 4, 0, 0, 0), (49, .imul, 0, 0, 0), (50, .iload 4, 0, 0, 0), (52, .imul, 0, 0, 0), (53, .iload 4, 0, 0, 0), (55, .imul, 0, 0, 0), (56, .iload_n 2, 0, 0, 0), (57, .iload_n 2, 0, 0, 0), (58, .imul, 0, 0, 0), (59, .iload_n 2, 0, 0, 0), (60, .imul, 0, 0, 0), (61, .idiv, 0, 0, 0)], (62, .invokestatic 46, 0, 65, 361)),
  (65, [], (65, .ireturn, 0, 0, 0))]
def mPt_badnessOf : MR := (⟨"PageFormatter$Parting", "badnessOf", "(IIIZ)I"⟩, prog_7_method_9_code, 5, (Option.some Jvm.ClassFile.FieldType.int), 1, 21, bPt_badnessOf, 392, 391, 0, 62, 4)
set_option maxRecDepth 100000 in
theorem okPt_badnessOf : MOK mPt_badnessOf := ⟨by decide +kernel, by decide +kernel⟩
def bPt_kindOf : List BLK := [
  (0, [(0, .iload_n 0, 0, 0, 0), (1, .bipush 13, 13, 0, 0)], (3, .if_icmp .ge 5, 8, 6, 0)),
  (6, [(6, .iconst 0, 0, 0, 0)], (7, .ireturn, 0, 0, 0)),
  (8, [(8, .iload_n 0, 0, 0, 0), (9, .bipush 100, 100, 0, 0)], (11, .if_icmp .ge 7, 18, 14, 0)),
  (14, [(14, .iconst 1, 1, 0, 0)], (15, .goto 4, 19, 18, 0)),
  (18, [(18, .iconst 2, 2, 0, 0)], (19, .nop, 0, 0, 0)),
  (19, [], (19, .ireturn, 0, 0, 0))]
def mPt_kindOf : MR := (⟨"PageFormatter$Parting", "kindOf", "(I)I"⟩, prog_7_method_10_code, 1, (Option.some Jvm.ClassFile.FieldType.int), 0, 0, bPt_kindOf, 395, 394, 0, 62, 1)
set_option maxRecDepth 100000 in
theorem okPt_kindOf : MOK mPt_kindOf := ⟨by decide +kernel, by decide +kernel⟩
def bPt_plainDemerits : List BLK := [
  (0, [(0, .lconst 1, 0, 0, 0), (1, .iload_n 3, 0, 0, 0), (2, .i2l, 0, 0, 0), (3, .ladd, 0, 0, 0), (4, .lconst 1, 0, 0, 0), (5, .iload_n 3, 0, 0, 0), (6, .i2l, 0, 0, 0), (7, .ladd, 0, 0, 0), (8, .lmul, 0, 0, 0), (9, .lstore 4, 0, 0, 0), (11, .aload_n 0, 0, 0, 0), (12, .iload_n 2, 0, 0, 0)], (13, .invokevirtual 94, 0, 16, 400)),
  (16, [], (16, .ifCond .eq 25, 41, 19, 0)),
  (19, [(19, .lload 4, 0, 0, 0), (21, .aload_n 0, 0, 0, 0), (22, .iload_n 1, 0, 0, 0)], (23, .invokevirtual 94, 0, 26, 400)),
  (26, [], (26, .ifCond .eq 9, 35, 29, 0)),
  (29, [(29, .ldc2_w 98, 13000, 0, 401)], (32, .goto 6, 38, 35, 0)),
  (35, [(35, .ldc2_w 100, 3000, 0, 402)], (38, .nop, 0, 0, 0)),
  (38, [(38, .ladd, 0, 0, 0), (39, .lstore 4, 0, 0, 0)], (41, .nop, 0, 0, 0)),
  (41, [(41, .lload 4, 0, 0, 0)], (43, .lreturn, 0, 0, 0))]
def mPt_plainDemerits : MR := (⟨"PageFormatter$Parting", "plainDemerits", "(LPageFormatter$Paragraph;III)J"⟩, prog_7_method_11_code, 6, (Option.some Jvm.ClassFile.FieldType.long), 1, 21, bPt_plainDemerits, 399, 398, 0, 62, 4)
set_option maxRecDepth 100000 in
theorem okPt_plainDemerits : MOK mPt_plainDemerits := ⟨by decide +kernel, by decide +kernel⟩
def bPt_clash : List BLK := [
  (0, [(0, .iload_n 0, 0, 0, 0), (1, .iload_n 1, 0, 0, 0), (2, .isub, 0, 0, 0), (3, .iconst 2, 2, 0, 0)], (4, .if_icmp .eq 10, 14, 7, 0)),
  (7, [(7, .iload_n 1, 0, 0, 0), (8, .iload_n 0, 0, 0, 0), (9, .isub, 0, 0, 0), (10, .iconst 2, 2, 0, 0)], (11, .if_icmp .ne 9, 20, 14, 0)),
  (14, [(14, .sipush 5000, 5000, 0, 0)], (17, .goto 4, 21, 20, 0)),
  (20, [(20, .iconst 0, 0, 0, 0)], (21, .nop, 0, 0, 0)),
  (21, [], (21, .ireturn, 0, 0, 0))]
def mPt_clash : MR := (⟨"PageFormatter$Parting", "clash", "(II)I"⟩, prog_7_method_12_code, 2, (Option.some Jvm.ClassFile.FieldType.int), 0, 0, bPt_clash, 405, 404, 0, 62, 2)
set_option maxRecDepth 100000 in
theorem okPt_clash : MOK mPt_clash := ⟨by decide +kernel, by decide +kernel⟩
def bPt_recordLine : List BLK := [
  (0, [(0, .aload_n 0, 0, 0, 0), (1, .iload_n 2, 0, 0, 0)], (2, .invokevirtual 66, 0, 5, 368)),
  (5, [(5, .istore 5, 0, 0, 0), (7, .aload_n 1, 0, 0, 0), (8, .iload_n 2, 0, 0, 0), (9, .iload_n 3, 0, 0, 0)], (10, .invokevirtual 73, 0, 13, 373)),
  (13, [(13, .istore 6, 0, 0, 0), (15, .aload_n 1, 0, 0, 0), (16, .iload_n 2, 0, 0, 0), (17, .iload_n 3, 0, 0, 0)], (18, .invokevirtual 76, 0, 21, 389)),
  (21, [(21, .istore 7, 0, 0, 0), (23, .bipush 6, 6, 0, 0), (25, .aload_n 0, 0, 0, 0), (26, .getfield 32, 5, 6, 265), (29, .imul, 0, 0, 0), (30, .istore 8, 0, 0, 0), (32, .aload_n 0, 0, 0, 0), (33, .getfield 19, 5, 2, 261), (36, .aload_n 0, 0, 0, 0), (37, .getfield 32, 5, 6, 265), (40, .iload_n 3, 0, 0, 0), (41, .iastore, 0, 0, 0), (42, .aload_n 0, 0, 0, 0), (43, .getfield 22, 5, 3, 262), (46, .iload 8, 0, 0, 0), (48, .iconst 0, 0, 0, 0), (49, .iadd, 0, 0, 0), (50, .iload 6, 0, 0, 0), (52, .iastore, 0, 0, 0), (53, .aload_n 0, 0, 0, 0), (54, .getfield 22, 5, 3, 262), (57, .iload 8, 0, 0, 0), (59, .iconst 1, 1, 0, 0), (60, .iadd, 0, 0, 0), (61, .iconst 0, 0, 0, 0), (62, .iload 5, 0, 0, 0), (64, .iload 6, 0, 0, 0), (66, .isub, 0, 0, 0)], (67, .invokestatic 102, 0, 70, 418)),
  (70, [(70, .iastore, 0, 0, 0), (71, .aload_n 0, 0, 0, 0), (72, .getfield 22, 5, 3, 262), (75, .iload 8, 0, 0, 0), (77, .iconst 2, 2, 0, 0), (78, .iadd, 0, 0, 0), (79, .iload 6, 0, 0, 0), (81, .iload 5, 0, 0, 0), (83, .iload 7, 0, 0, 0), (85, .iload 4, 0, 0, 0)], (87, .invokestatic 79, 0, 90, 390)),
  (90, [(90, .iastore, 0, 0, 0), (91, .aload_n 0, 0, 0, 0), (92, .getfield 22, 5, 3, 262), (95, .iload 8, 0, 0, 0), (97, .iconst 3, 3, 0, 0), (98, .iadd, 0, 0, 0), (99, .iload 7, 0, 0, 0), (101, .iastore, 0, 0, 0), (102, .aload_n 0, 0, 0, 0), (103, .getfield 22, 5, 3, 262), (106, .iload 8, 0, 0, 0), (108, .iconst 4, 4, 0, 0), (109, .iadd, 0, 0, 0), (110, .aload_n 1, 0, 0, 0), (111, .iload_n 3, 0, 0, 0)], (112, .invokevirtual 94, 0, 115, 400)),
  (115, [], (115, .ifCond .eq 7, 122, 118, 0)),
  (118, [(118, .iconst 1, 1, 0, 0)], (119, .goto 4, 123, 122, 0)),
  (122, [(122, .iconst 0, 0, 0, 0)], (123, .nop, 0, 0, 0)),
  (123, [(123, .iastore, 0, 0, 0), (124, .aload_n 0, 0, 0, 0), (125, .getfield 22, 5, 3, 262), (128, .iload 8, 0, 0, 0), (130, .iconst 5, 5, 0, 0), (131, .iadd, 0, 0, 0), (132, .iload 5, 0, 0, 0), (134, .iastore, 0, 0, 0)], (135, .return_, 0, 0, 0))]
def mPt_recordLine : MR := (⟨"PageFormatter$Parting", "recordLine", "(LPageFormatter$Paragraph;IIZ)V"⟩, prog_7_method_13_code, 9, (Option.none : Option Jvm.ClassFile.FieldType), 2, 45, bPt_recordLine, 417, 416, 6, 62, 4)
set_option maxRecDepth 100000 in
theorem okPt_recordLine : MOK mPt_recordLine := ⟨by decide +kernel, by decide +kernel⟩
