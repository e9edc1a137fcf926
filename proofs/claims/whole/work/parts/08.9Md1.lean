def bMd_lengthOf : List BLK := [
  (0, [(0, .aload_n 0, 0, 0, 0), (1, .getfield 22, 8, 7, 638), (4, .iload_n 2, 0, 0, 0), (5, .iaload, 0, 0, 0), (6, .aload_n 0, 0, 0, 0), (7, .getfield 22, 8, 7, 638), (10, .iload_n 1, 0, 0, 0), (11, .iaload, 0, 0, 0), (12, .isub, 0, 0, 0), (13, .aload_n 0, 0, 0, 0), (14, .iload_n 1, 0, 0, 0), (15, .iload_n 2, 0, 0, 0)], (16, .invokevirtual 181, 0, 19, 817)),
  (19, [(19, .iadd, 0, 0, 0), (20, .aload_n 0, 0, 0, 0), (21, .getfield 28, 8, 9, 640), (24, .iload_n 2, 0, 0, 0), (25, .baload, 0, 0, 0)], (26, .ifCond .eq 7, 33, 29, 0)),
  (29, [(29, .iconst 1, 1, 0, 0)], (30, .goto 4, 34, 33, 0)),
  (33, [(33, .iconst 0, 0, 0, 0)], (34, .nop, 0, 0, 0)),
  (34, [(34, .iadd, 0, 0, 0)], (35, .ireturn, 0, 0, 0))]
def mMd_lengthOf : MR := (⟨"PageFormatterModel", "lengthOf", "(II)I"⟩, prog_10_method_17_code, 3, (Option.some Jvm.ClassFile.FieldType.int), 1, 22, bMd_lengthOf, 816, 815, 28, 63, 2)
set_option maxRecDepth 100000 in
theorem okMd_lengthOf : MOK mMd_lengthOf := ⟨by decide +kernel, by decide +kernel⟩
def bMd_roomOf : List BLK := [
  (0, [(0, .aload_n 0, 0, 0, 0), (1, .getfield 104, 8, 30, 661), (4, .iload_n 1, 0, 0, 0)], (5, .ifCond .ne 10, 15, 8, 0)),
  (8, [(8, .aload_n 0, 0, 0, 0), (9, .getfield 184, 8, 43, 674)], (12, .goto 7, 19, 15, 0)),
  (15, [(15, .aload_n 0, 0, 0, 0), (16, .getfield 98, 8, 28, 659)], (19, .nop, 0, 0, 0)),
  (19, [(19, .isub, 0, 0, 0)], (20, .ireturn, 0, 0, 0))]
def mMd_roomOf : MR := (⟨"PageFormatterModel", "roomOf", "(I)I"⟩, prog_10_method_18_code, 2, (Option.some Jvm.ClassFile.FieldType.int), 0, 0, bMd_roomOf, 824, 823, 30, 63, 1)
set_option maxRecDepth 100000 in
theorem okMd_roomOf : MOK mMd_roomOf := ⟨by decide +kernel, by decide +kernel⟩
def bMd_slackOf : List BLK := [
  (0, [(0, .aload_n 0, 0, 0, 0), (1, .iload_n 1, 0, 0, 0)], (2, .invokevirtual 187, 0, 5, 821)),
  (5, [(5, .aload_n 0, 0, 0, 0), (6, .iload_n 1, 0, 0, 0), (7, .iload_n 2, 0, 0, 0)], (8, .invokevirtual 191, 0, 11, 813)),
  (11, [(11, .isub, 0, 0, 0), (12, .istore_n 3, 0, 0, 0), (13, .iload_n 3, 0, 0, 0)], (14, .ifCond .ge 7, 21, 17, 0)),
  (17, [(17, .iconst 0, 0, 0, 0)], (18, .goto 4, 22, 21, 0)),
  (21, [(21, .iload_n 3, 0, 0, 0)], (22, .nop, 0, 0, 0)),
  (22, [], (22, .ireturn, 0, 0, 0))]
def mMd_slackOf : MR := (⟨"PageFormatterModel", "slackOf", "(II)I"⟩, prog_10_method_19_code, 4, (Option.some Jvm.ClassFile.FieldType.int), 2, 44, bMd_slackOf, 832, 831, 32, 63, 2)
set_option maxRecDepth 100000 in
theorem okMd_slackOf : MOK mMd_slackOf := ⟨by decide +kernel, by decide +kernel⟩
def bMd_badnessOf : List BLK := [
  (0, [(0, .aload_n 0, 0, 0, 0), (1, .iload_n 1, 0, 0, 0), (2, .iload_n 2, 0, 0, 0)], (3, .invokevirtual 191, 0, 6, 813)),
  (6, [(6, .aload_n 0, 0, 0, 0), (7, .iload_n 1, 0, 0, 0)], (8, .invokevirtual 187, 0, 11, 821)),
  (11, [], (11, .if_icmp .le 7, 18, 14, 0)),
  (14, [(14, .sipush 10000, 10000, 0, 0)], (17, .ireturn, 0, 0, 0)),
  (18, [(18, .aload_n 0, 0, 0, 0), (19, .iload_n 1, 0, 0, 0), (20, .iload_n 2, 0, 0, 0)], (21, .invokevirtual 194, 0, 24, 829)),
  (24, [(24, .i2l, 0, 0, 0), (25, .lstore_n 3, 0, 0, 0), (26, .aload_n 0, 0, 0, 0), (27, .iload_n 1, 0, 0, 0), (28, .iload_n 2, 0, 0, 0)], (29, .invokevirtual 181, 0, 32, 817)),
  (32, [(32, .i2l, 0, 0, 0), (33, .lstore 5, 0, 0, 0), (35, .iload_n 2, 0, 0, 0), (36, .aload_n 0, 0, 0, 0), (37, .getfield 174, 8, 11, 642)], (40, .if_icmp .eq 9, 49, 43, 0)),
  (43, [(43, .lload_n 3, 0, 0, 0), (44, .lconst 0, 0, 0, 0), (45, .lcmp, 0, 0, 0)], (46, .ifCond .ne 5, 51, 49, 0)),
  (49, [(49, .iconst 0, 0, 0, 0)], (50, .ireturn, 0, 0, 0)),
  (51, [(51, .lload 5, 0, 0, 0), (53, .lconst 0, 0, 0, 0), (54, .lcmp, 0, 0, 0)], (55, .ifCond .eq 14, 69, 58, 0)),
  (58, [(58, .lload_n 3, 0, 0, 0), (59, .ldc2_w 197, 20, 0, 833), (62, .lload 5, 0, 0, 0), (64, .lmul, 0, 0, 0), (65, .lcmp, 0, 0, 0)], (66, .ifCond .le 7, 73, 69, 0)),
  (69, [(69, .sipush 10000, 10000, 0, 0)], (72, .ireturn, 0, 0, 0)),
  (73, [(73, .ldc2_w 199, 100, 0, 834), (76, .lload_n 3, 0, 0, 0), (77, .lmul, 0, 0, 0), (78, .lload_n 3, 0, 0, 0), (79, .lmul, 0, 0, 0), (80, .lload_n 3, 0, 0, 0), (81, .lmul, 0, 0, 0), (82, .lload 5, 0, 0, 0), (84, .lload 5, 0, 0, 0), (86, .lmul, 0, 0, 0), (87, .lload 5, 0, 0, 0), (89, .lmul, 0, 0, 0), (90, .ldiv, 0, 0, 0), (91, .lstore 7, 0, 0, 0), (93, .lload 7, 0, 0, 0), (95, .ldc2_w 201, 10000, 0, 835), (98, .lcmp, 0, 0, 0)], (99, .ifCond .le 9, 108, 102, 0)),
  (102, [(102, .sipush 10000, 10000, 0, 0)], (105, .goto 6, 111, 108, 0)),
  (108, [(108, .lload 7, 0, 0, 0), (110, .l2i, 0, 0, 0)], (111, .nop, 0, 0, 0)),
  (111, [], (111, .ireturn, 0, 0, 0))]
def mMd_badnessOf : MR := (⟨"PageFormatterModel", "badnessOf", "(II)I"⟩, prog_10_method_20_code, 9, (Option.some Jvm.ClassFile.FieldType.int), 3, 67, bMd_badnessOf, 828, 827, 31, 63, 2)
set_option maxRecDepth 100000 in
theorem okMd_badnessOf : MOK mMd_badnessOf := ⟨by decide +kernel, by decide +kernel⟩
def bMd_kindOf : List BLK := [
  (0, [(0, .iload_n 0, 0, 0, 0), (1, .bipush 13, 13, 0, 0)], (3, .if_icmp .ge 7, 10, 6, 0)),
  (6, [(6, .iconst 0, 0, 0, 0)], (7, .goto 14, 21, 10, 0)),
  (10, [(10, .iload_n 0, 0, 0, 0), (11, .bipush 100, 100, 0, 0)], (13, .if_icmp .ge 7, 20, 16, 0)),
  (16, [(16, .iconst 1, 1, 0, 0)], (17, .goto 4, 21, 20, 0)),
  (20, [(20, .iconst 2, 2, 0, 0)], (21, .nop, 0, 0, 0)),
  (21, [], (21, .ireturn, 0, 0, 0))]
def mMd_kindOf : MR := (⟨"PageFormatterModel", "kindOf", "(I)I"⟩, prog_10_method_21_code, 1, (Option.some Jvm.ClassFile.FieldType.int), 0, 0, bMd_kindOf, 838, 837, 0, 63, 1)
set_option maxRecDepth 100000 in
theorem okMd_kindOf : MOK mMd_kindOf := ⟨by decide +kernel, by decide +kernel⟩
def bMd_demeritsOf : List BLK := [
  (0, [(0, .lconst 1, 0, 0, 0), (1, .aload_n 0, 0, 0, 0), (2, .iload_n 1, 0, 0, 0), (3, .iload_n 2, 0, 0, 0)], (4, .invokevirtual 203, 0, 7, 825)),
  (7, [(7, .i2l, 0, 0, 0), (8, .ladd, 0, 0, 0), (9, .lstore 4, 0, 0, 0), (11, .lload 4, 0, 0, 0), (13, .lload 4, 0, 0, 0), (15, .lmul, 0, 0, 0), (16, .lstore 6, 0, 0, 0), (18, .aload_n 0, 0, 0, 0), (19, .getfield 28, 8, 9, 640), (22, .iload_n 2, 0, 0, 0), (23, .baload, 0, 0, 0)], (24, .ifCond .eq 36, 60, 27, 0)),
  (27, [(27, .lload 6, 0, 0, 0), (29, .ldc2_w 206, 3000, 0, 843), (32, .ladd, 0, 0, 0), (33, .lstore 6, 0, 0, 0), (35, .lload 6, 0, 0, 0), (37, .iload_n 1, 0, 0, 0)], (38, .ifCond .le 18, 56, 41, 0)),
  (41, [(41, .aload_n 0, 0, 0, 0), (42, .getfield 28, 8, 9, 640), (45, .iload_n 1, 0, 0, 0), (46, .baload, 0, 0, 0)], (47, .ifCond .eq 9, 56, 50, 0)),
  (50, [(50, .ldc2_w 201, 10000, 0, 835)], (53, .goto 4, 57, 56, 0)),
  (56, [(56, .lconst 0, 0, 0, 0)], (57, .nop, 0, 0, 0)),
  (57, [(57, .ladd, 0, 0, 0), (58, .lstore 6, 0, 0, 0)], (60, .nop, 0, 0, 0)),
  (60, [(60, .lload 4, 0, 0, 0), (62, .l2i, 0, 0, 0), (63, .iconst 1, 1, 0, 0), (64, .isub, 0, 0, 0)], (65, .invokestatic 208, 0, 68, 836)),
  (68, [(68, .istore 8, 0, 0, 0), (70, .iload 8, 0, 0, 0), (72, .iconst 2, 2, 0, 0)], (73, .if_icmp .ne 7, 80, 76, 0)),
  (76, [(76, .iload_n 3, 0, 0, 0)], (77, .ifCond .eq 13, 90, 80, 0)),
  (80, [(80, .iload 8, 0, 0, 0)], (82, .ifCond .ne 12, 94, 85, 0)),
  (85, [(85, .iload_n 3, 0, 0, 0), (86, .iconst 2, 2, 0, 0)], (87, .if_icmp .ne 7, 94, 90, 0)),
  (90, [(90, .iconst 1, 1, 0, 0)], (91, .goto 4, 95, 94, 0)),
  (94, [(94, .iconst 0, 0, 0, 0)], (95, .nop, 0, 0, 0)),
  (95, [(95, .istore 9, 0, 0, 0), (97, .iload 9, 0, 0, 0)], (99, .ifCond .eq 12, 111, 102, 0)),
  (102, [(102, .lload 6, 0, 0, 0), (104, .ldc2_w 211, 5000, 0, 844), (107, .ladd, 0, 0, 0)], (108, .goto 5, 113, 111, 0)),
  (111, [(111, .lload 6, 0, 0, 0)], (113, .nop, 0, 0, 0)),
  (113, [], (113, .lreturn, 0, 0, 0))]
def mMd_demeritsOf : MR := (⟨"PageFormatterModel", "demeritsOf", "(III)J"⟩, prog_10_method_22_code, 10, (Option.some Jvm.ClassFile.FieldType.long), 4, 95, bMd_demeritsOf, 842, 841, 33, 63, 3)
set_option maxRecDepth 100000 in
theorem okMd_demeritsOf : MOK mMd_demeritsOf := ⟨by decide +kernel, by decide +kernel⟩
def bMd_findBest : List BLK := [
  (0, [(0, .iconst 4, 4, 0, 0), (1, .iload_n 1, 0, 0, 0), (2, .imul, 0, 0, 0), (3, .iload_n 2, 0, 0, 0), (4, .iadd, 0, 0, 0), (5, .istore_n 3, 0, 0, 0), (6, .aload_n 0, 0, 0, 0), (7, .getfield 35, 8, 12, 643), (10, .iload_n 3, 0, 0, 0), (11, .iload_n 1, 0, 0, 0), (12, .aload_n 0, 0, 0, 0), (13, .getfield 174, 8, 11, 642)], (16, .if_icmp .ne 7, 23, 19, 0)),
  (19, [(19, .lconst 0, 0, 0, 0)], (20, .goto 6, 26, 23, 0)),
  (23, [(23, .ldc2_w 213, 4000000000000000000, 0, 812)], (26, .nop, 0, 0, 0)),
  (26, [(26, .lastore, 0, 0, 0), (27, .aload_n 0, 0, 0, 0), (28, .getfield 39, 8, 13, 644), (31, .iload_n 3, 0, 0, 0), (32, .iconst 0, 0, 0, 0), (33, .iastore, 0, 0, 0), (34, .iload_n 1, 0, 0, 0), (35, .aload_n 0, 0, 0, 0), (36, .getfield 174, 8, 11, 642)], (39, .if_icmp .ge 7, 46, 42, 0)),
  (42, [(42, .iconst 1, 1, 0, 0)], (43, .goto 4, 47, 46, 0)),
  (46, [(46, .iconst 0, 0, 0, 0)], (47, .nop, 0, 0, 0)),
  (47, [(47, .istore 4, 0, 0, 0), (49, .iload_n 1, 0, 0, 0), (50, .iconst 1, 1, 0, 0), (51, .iadd, 0, 0, 0), (52, .istore 5, 0, 0, 0)], (54, .nop, 0, 0, 0)),
  (54, [(54, .iload 5, 0, 0, 0), (56, .aload_n 0, 0, 0, 0), (57, .getfield 174, 8, 11, 642)], (60, .if_icmp .gt 154, 214, 63, 0)),
  (63, [(63, .iload 4, 0, 0, 0)], (65, .ifCond .eq 149, 214, 68, 0)),
  (68, [(68, .iload 5, 0, 0, 0), (70, .iload_n 1, 0, 0, 0), (71, .iconst 1, 1, 0, 0), (72, .iadd, 0, 0, 0)], (73, .if_icmp .eq 18, 91, 76, 0)),
  (76, [(76, .aload_n 0, 0, 0, 0), (77, .iload_n 1, 0, 0, 0), (78, .iload 5, 0, 0, 0)], (80, .invokevirtual 191, 0, 83, 813)),
  (83, [(83, .aload_n 0, 0, 0, 0), (84, .iload_n 1, 0, 0, 0)], (85, .invokevirtual 187, 0, 88, 821)),
  (88, [], (88, .if_icmp .gt 7, 95, 91, 0)),
  (91, [(91, .iconst 1, 1, 0, 0)], (92, .goto 4, 96, 95, 0)),
  (95, [(95, .iconst 0, 0, 0, 0)], (96, .nop, 0, 0, 0)),
  (96, [(96, .istore 4, 0, 0, 0), (98, .iload 4, 0, 0, 0)], (100, .ifCond .eq 108, 208, 103, 0)),
  (103, [(103, .iconst 4, 4, 0, 0), (104, .iload 5, 0, 0, 0), (106, .imul, 0, 0, 0), (107, .aload_n 0, 0, 0, 0), (108, .iload_n 1, 0, 0, 0), (109, .iload 5, 0, 0, 0)], (111, .invokevirtual 203, 0, 114, 825)),
  (114, [], (114, .invokestatic 208, 0, 117, 836)),
  (117, [(117, .iadd, 0, 0, 0), (118, .istore 6, 0, 0, 0), (120, .aload_n 0, 0, 0, 0), (121, .iload_n 1, 0, 0, 0), (122, .iload 5, 0, 0, 0), (124, .iload_n 2, 0, 0, 0)], (125, .invokevirtual 215, 0, 128, 839)),
  (128, [(128, .aload_n 0, 0, 0, 0), (129, .getfield 35, 8, 12, 643), (132, .iload 6, 0, 0, 0), (134, .laload, 0, 0, 0), (135, .ladd, 0, 0, 0), (136, .lstore 7, 0, 0, 0), (138, .aload_n 0, 0, 0, 0), (139, .getfield 39, 8, 13, 644), (142, .iload 6, 0, 0, 0), (144, .iaload, 0, 0, 0), (145, .iconst 1, 1, 0, 0), (146, .iadd, 0, 0, 0), (147, .istore 9, 0, 0, 0), (149, .lload 7, 0, 0, 0), (151, .aload_n 0, 0, 0, 0), (152, .getfield 35, 8, 12, 643), (155, .iload_n 3, 0, 0, 0), (156, .laload, 0, 0, 0), (157, .lcmp, 0, 0, 0)], (158, .ifCond .lt 26, 184, 161, 0)),
  (161, [(161, .lload 7, 0, 0, 0), (163, .aload_n 0, 0, 0, 0), (164, .getfield 35, 8, 12, 643), (167, .iload_n 3, 0, 0, 0), (168, .laload, 0, 0, 0), (169, .lcmp, 0, 0, 0)], (170, .ifCond .ne 38, 208, 173, 0)),
  (173, [(173, .iload 9, 0, 0, 0), (175, .aload_n 0, 0, 0, 0), (176, .getfield 39, 8, 13, 644), (179, .iload_n 3, 0, 0, 0), (180, .iaload, 0, 0, 0)], (181, .if_icmp .ge 27, 208, 184, 0)),
  (184, [(184, .aload_n 0, 0, 0, 0), (185, .getfield 35, 8, 12, 643), (188, .iload_n 3, 0, 0, 0), (189, .lload 7, 0, 0, 0), (191, .lastore, 0, 0, 0), (192, .aload_n 0, 0, 0, 0), (193, .getfield 39, 8, 13, 644), (196, .iload_n 3, 0, 0, 0), (197, .iload 9, 0, 0, 0), (199, .iastore, 0, 0, 0), (200, .aload_n 0, 0, 0, 0), (201, .getfield 42, 8, 14, 645), (204, .iload_n 3, 0, 0, 0), (205, .iload 5, 0, 0, 0), (207, .iastore, 0, 0, 0)], (208, .nop, 0, 0, 0)),
  (208, [(208, .iinc 5 1, 1, 0, 0)], (211, .goto (-157), 54, 214, 0)),
  (214, [], (214, .return_, 0, 0, 0))]
def mMd_findBest : MR := (⟨"PageFormatterModel", "findBest", "(II)V"⟩, prog_10_method_23_code, 10, (Option.none : Option Jvm.ClassFile.FieldType), 5, 124, bMd_findBest, 811, 810, 27, 63, 2)
set_option maxRecDepth 100000 in
theorem okMd_findBest : MOK mMd_findBest := ⟨by decide +kernel, by decide +kernel⟩
def bMd_breakNow : List BLK := [
  (0, [(0, .aload_n 0, 0, 0, 0), (1, .getfield 85, 8, 6, 637)], (4, .ifCond .ne 4, 8, 7, 0)),
  (7, [], (7, .return_, 0, 0, 0)),
  (8, [(8, .aload_n 0, 0, 0, 0), (9, .aload_n 0, 0, 0, 0), (10, .getfield 101, 8, 29, 660), (13, .putfield 184, 8, 43, 674), (16, .aload_n 0, 0, 0, 0)], (17, .invokevirtual 219, 0, 20, 800)),
  (20, [(20, .aload_n 0, 0, 0, 0), (21, .getfield 174, 8, 11, 642), (24, .istore_n 1, 0, 0, 0)], (25, .nop, 0, 0, 0)),
  (25, [(25, .iload_n 1, 0, 0, 0)], (26, .ifCond .le 28, 54, 29, 0)),
  (29, [(29, .iconst 0, 0, 0, 0), (30, .istore_n 2, 0, 0, 0)], (31, .nop, 0, 0, 0)),
  (31, [(31, .iload_n 2, 0, 0, 0), (32, .iconst 3, 3, 0, 0)], (33, .if_icmp .ge 15, 48, 36, 0)),
  (36, [(36, .aload_n 0, 0, 0, 0), (37, .iload_n 1, 0, 0, 0), (38, .iload_n 2, 0, 0, 0)], (39, .invokevirtual 222, 0, 42, 808)),
  (42, [(42, .iinc 2 1, 1, 0, 0)], (45, .goto (-14), 31, 48, 0)),
  (48, [(48, .iinc 1 (-1), 0, 1, 0)], (51, .goto (-26), 25, 54, 0)),
  (54, [(54, .aload_n 0, 0, 0, 0), (55, .iconst 0, 0, 0, 0), (56, .iconst 3, 3, 0, 0)], (57, .invokevirtual 222, 0, 60, 808)),
  (60, [(60, .aload_n 0, 0, 0, 0), (61, .aload_n 0, 0, 0, 0), (62, .getfield 35, 8, 12, 643), (65, .iconst 3, 3, 0, 0), (66, .laload, 0, 0, 0), (67, .putfield 47, 8, 15, 646), (70, .aload_n 0, 0, 0, 0), (71, .iconst 0, 0, 0, 0), (72, .putfield 225, 8, 16, 647), (75, .iconst 0, 0, 0, 0), (76, .istore_n 1, 0, 0, 0), (77, .iconst 3, 3, 0, 0), (78, .istore_n 2, 0, 0, 0)], (79, .nop, 0, 0, 0)),
  (79, [(79, .iload_n 1, 0, 0, 0), (80, .aload_n 0, 0, 0, 0), (81, .getfield 174, 8, 11, 642)], (84, .if_icmp .ge 35, 119, 87, 0)),
  (87, [(87, .aload_n 0, 0, 0, 0), (88, .getfield 42, 8, 14, 645), (91, .iconst 4, 4, 0, 0), (92, .iload_n 1, 0, 0, 0), (93, .imul, 0, 0, 0), (94, .iload_n 2, 0, 0, 0), (95, .iadd, 0, 0, 0), (96, .iaload, 0, 0, 0), (97, .istore_n 3, 0, 0, 0), (98, .aload_n 0, 0, 0, 0), (99, .iload_n 1, 0, 0, 0), (100, .iload_n 3, 0, 0, 0)], (101, .invokevirtual 228, 0, 104, 845)),
  (104, [(104, .aload_n 0, 0, 0, 0), (105, .iload_n 1, 0, 0, 0), (106, .iload_n 3, 0, 0, 0)], (107, .invokevirtual 203, 0, 110, 825)),
  (110, [], (110, .invokestatic 208, 0, 113, 836)),
  (113, [(113, .istore_n 2, 0, 0, 0), (114, .iload_n 3, 0, 0, 0), (115, .istore_n 1, 0, 0, 0)], (116, .goto (-37), 79, 119, 0)),
  (119, [(119, .iconst 0, 0, 0, 0), (120, .istore_n 1, 0, 0, 0), (121, .iconst 3, 3, 0, 0), (122, .istore_n 2, 0, 0, 0), (123, .aload_n 0, 0, 0, 0), (124, .iconst 0, 0, 0, 0), (125, .putfield 85, 8, 6, 637)], (128, .nop, 0, 0, 0)),
  (128, [(128, .iload_n 1, 0, 0, 0), (129, .aload_n 0, 0, 0, 0), (130, .getfield 174, 8, 11, 642)], (133, .if_icmp .ge 39, 172, 136, 0)),
  (136, [(136, .aload_n 0, 0, 0, 0), (137, .getfield 42, 8, 14, 645), (140, .iconst 4, 4, 0, 0), (141, .iload_n 1, 0, 0, 0), (142, .imul, 0, 0, 0), (143, .iload_n 2, 0, 0, 0), (144, .iadd, 0, 0, 0), (145, .iaload, 0, 0, 0), (146, .istore_n 3, 0, 0, 0), (147, .aload_n 0, 0, 0, 0), (148, .iload_n 1, 0, 0, 0), (149, .iload_n 3, 0, 0, 0)], (150, .invokevirtual 203, 0, 153, 825)),
  (153, [], (153, .invokestatic 208, 0, 156, 836)),
  (156, [(156, .istore_n 2, 0, 0, 0), (157, .aload_n 0, 0, 0, 0), (158, .iload_n 1, 0, 0, 0), (159, .iload_n 3, 0, 0, 0)], (160, .invokevirtual 231, 0, 163, 849)),
  (163, [(163, .aload_n 0, 0, 0, 0)], (164, .invokevirtual 234, 0, 167, 857)),
  (167, [(167, .iload_n 3, 0, 0, 0), (168, .istore_n 1, 0, 0, 0)], (169, .goto (-41), 128, 172, 0)),
  (172, [], (172, .return_, 0, 0, 0))]
def mMd_breakNow : MR := (⟨"PageFormatterModel", "breakNow", "()V"⟩, prog_10_method_24_code, 4, (Option.none : Option Jvm.ClassFile.FieldType), 6, 153, bMd_breakNow, 799, 798, 24, 63, 0)
set_option maxRecDepth 100000 in
theorem okMd_breakNow : MOK mMd_breakNow := ⟨by decide +kernel, by decide +kernel⟩
def bMd_note : List BLK := [
  (0, [(0, .aload_n 0, 0, 0, 0), (1, .getfield 51, 8, 17, 648), (4, .aload_n 0, 0, 0, 0), (5, .getfield 225, 8, 16, 647), (8, .aload_n 0, 0, 0, 0), (9, .iload_n 1, 0, 0, 0), (10, .iload_n 2, 0, 0, 0)], (11, .invokevirtual 191, 0, 14, 813)),
  (14, [(14, .iastore, 0, 0, 0), (15, .aload_n 0, 0, 0, 0), (16, .getfield 54, 8, 18, 649), (19, .aload_n 0, 0, 0, 0), (20, .getfield 225, 8, 16, 647), (23, .aload_n 0, 0, 0, 0), (24, .iload_n 1, 0, 0, 0), (25, .iload_n 2, 0, 0, 0)], (26, .invokevirtual 194, 0, 29, 829)),
  (29, [(29, .iastore, 0, 0, 0), (30, .aload_n 0, 0, 0, 0), (31, .getfield 57, 8, 19, 650), (34, .aload_n 0, 0, 0, 0), (35, .getfield 225, 8, 16, 647), (38, .aload_n 0, 0, 0, 0), (39, .iload_n 1, 0, 0, 0), (40, .iload_n 2, 0, 0, 0)], (41, .invokevirtual 203, 0, 44, 825)),
  (44, [(44, .iastore, 0, 0, 0), (45, .aload_n 0, 0, 0, 0), (46, .getfield 60, 8, 20, 651), (49, .aload_n 0, 0, 0, 0), (50, .getfield 225, 8, 16, 647), (53, .aload_n 0, 0, 0, 0), (54, .iload_n 1, 0, 0, 0), (55, .iload_n 2, 0, 0, 0)], (56, .invokevirtual 181, 0, 59, 817)),
  (59, [(59, .iastore, 0, 0, 0), (60, .aload_n 0, 0, 0, 0), (61, .getfield 63, 8, 21, 652), (64, .aload_n 0, 0, 0, 0), (65, .getfield 225, 8, 16, 647), (68, .aload_n 0, 0, 0, 0), (69, .getfield 28, 8, 9, 640), (72, .iload_n 2, 0, 0, 0), (73, .baload, 0, 0, 0), (74, .bastore, 0, 0, 0), (75, .aload_n 0, 0, 0, 0), (76, .getfield 66, 8, 22, 653), (79, .aload_n 0, 0, 0, 0), (80, .getfield 225, 8, 16, 647), (83, .aload_n 0, 0, 0, 0), (84, .iload_n 1, 0, 0, 0)], (85, .invokevirtual 187, 0, 88, 821)),
  (88, [(88, .iastore, 0, 0, 0), (89, .aload_n 0, 0, 0, 0), (90, .dup, 0, 0, 0), (91, .getfield 225, 8, 16, 647), (94, .iconst 1, 1, 0, 0), (95, .iadd, 0, 0, 0), (96, .putfield 225, 8, 16, 647)], (99, .return_, 0, 0, 0))]
def mMd_note : MR := (⟨"PageFormatterModel", "note", "(II)V"⟩, prog_10_method_25_code, 3, (Option.none : Option Jvm.ClassFile.FieldType), 4, 95, bMd_note, 848, 847, 34, 63, 2)
set_option maxRecDepth 100000 in
theorem okMd_note : MOK mMd_note := ⟨by decide +kernel, by decide +kernel⟩
def bMd_layLine : List BLK := [
  (0, [(0, .aload_n 0, 0, 0, 0), (1, .getfield 92, 8, 26, 657)], (4, .ifCond .eq 20, 24, 7, 0)),
  (7, [(7, .iload_n 2, 0, 0, 0), (8, .aload_n 0, 0, 0, 0), (9, .getfield 174, 8, 11, 642)], (12, .if_icmp .ge 12, 24, 15, 0)),
  (15, [(15, .aload_n 0, 0, 0, 0), (16, .iload_n 1, 0, 0, 0), (17, .iload_n 2, 0, 0, 0)], (18, .invokevirtual 194, 0, 21, 829)),
  (21, [], (21, .goto 4, 25, 24, 0)),
  (24, [(24, .iconst 0, 0, 0, 0)], (25, .nop, 0, 0, 0)),
  (25, [(25, .istore_n 3, 0, 0, 0), (26, .aload_n 0, 0, 0, 0), (27, .iload_n 1, 0, 0, 0), (28, .iload_n 2, 0, 0, 0)], (29, .invokevirtual 181, 0, 32, 817)),
  (32, [(32, .istore 4, 0, 0, 0), (34, .iconst 0, 0, 0, 0), (35, .istore 5, 0, 0, 0), (37, .aload_n 0, 0, 0, 0), (38, .iconst 0, 0, 0, 0), (39, .putfield 161, 8, 3, 634), (42, .aload_n 0, 0, 0, 0), (43, .getfield 25, 8, 8, 639), (46, .iload_n 1, 0, 0, 0), (47, .iaload, 0, 0, 0), (48, .istore 6, 0, 0, 0), (50, .aload_n 0, 0, 0, 0), (51, .getfield 32, 8, 10, 641), (54, .iload_n 1, 0, 0, 0), (55, .iaload, 0, 0, 0), (56, .istore 7, 0, 0, 0)], (58, .nop, 0, 0, 0)),
  (58, [(58, .iload 7, 0, 0, 0), (60, .aload_n 0, 0, 0, 0), (61, .getfield 32, 8, 10, 641), (64, .iload_n 2, 0, 0, 0), (65, .iaload, 0, 0, 0)], (66, .if_icmp .lt 14, 80, 69, 0)),
  (69, [(69, .iload 6, 0, 0, 0), (71, .aload_n 0, 0, 0, 0), (72, .getfield 25, 8, 8, 639), (75, .iload_n 2, 0, 0, 0), (76, .iaload, 0, 0, 0)], (77, .if_icmp .ge 124, 201, 80, 0)),
  (80, [(80, .iload 6, 0, 0, 0), (82, .aload_n 0, 0, 0, 0), (83, .getfield 25, 8, 8, 639), (86, .iload_n 2, 0, 0, 0), (87, .iaload, 0, 0, 0)], (88, .if_icmp .ge 54, 142, 91, 0)),
  (91, [(91, .iload 7, 0, 0, 0), (93, .aload_n 0, 0, 0, 0), (94, .getfield 19, 8, 5, 636), (97, .iload 6, 0, 0, 0), (99, .iaload, 0, 0, 0)], (100, .if_icmp .ne 42, 142, 103, 0)),
  (103, [(103, .iinc 6 1, 1, 0, 0), (106, .iload 5, 0, 0, 0), (108, .iload 4, 0, 0, 0)], (110, .if_icmp .ge (-30), 80, 113, 0)),
  (113, [(113, .iinc 5 1, 1, 0, 0), (116, .aload_n 0, 0, 0, 0), (117, .iconst 1, 1, 0, 0), (118, .iload_n 3, 0, 0, 0), (119, .iload 5, 0, 0, 0), (121, .imul, 0, 0, 0), (122, .iload 4, 0, 0, 0), (124, .idiv, 0, 0, 0), (125, .iadd, 0, 0, 0), (126, .iload_n 3, 0, 0, 0), (127, .iload 5, 0, 0, 0), (129, .iconst 1, 1, 0, 0), (130, .isub, 0, 0, 0), (131, .imul, 0, 0, 0), (132, .iload 4, 0, 0, 0), (134, .idiv, 0, 0, 0), (135, .isub, 0, 0, 0)], (136, .invokevirtual 237, 0, 139, 853)),
  (139, [], (139, .goto (-59), 80, 142, 0)),
  (142, [(142, .iload 7, 0, 0, 0), (144, .aload_n 0, 0, 0, 0), (145, .getfield 32, 8, 10, 641), (148, .iload_n 2, 0, 0, 0), (149, .iaload, 0, 0, 0)], (150, .if_icmp .ge 45, 195, 153, 0)),
  (153, [(153, .aload_n 0, 0, 0, 0), (154, .getfield 16, 8, 4, 635), (157, .iload 7, 0, 0, 0), (159, .iaload, 0, 0, 0), (160, .sipush 255, 255, 0, 0), (163, .iand, 0, 0, 0), (164, .bipush 94, 94, 0, 0)], (166, .if_icmp .eq 29, 195, 169, 0)),
  (169, [(169, .aload_n 0, 0, 0, 0), (170, .getfield 13, 8, 2, 633), (173, .aload_n 0, 0, 0, 0), (174, .getfield 161, 8, 3, 634), (177, .aload_n 0, 0, 0, 0), (178, .getfield 16, 8, 4, 635), (181, .iload 7, 0, 0, 0), (183, .iaload, 0, 0, 0), (184, .iastore, 0, 0, 0), (185, .aload_n 0, 0, 0, 0), (186, .dup, 0, 0, 0), (187, .getfield 161, 8, 3, 634), (190, .iconst 1, 1, 0, 0), (191, .iadd, 0, 0, 0), (192, .putfield 161, 8, 3, 634)], (195, .nop, 0, 0, 0)),
  (195, [(195, .iinc 7 1, 1, 0, 0)], (198, .goto (-140), 58, 201, 0)),
  (201, [(201, .aload_n 0, 0, 0, 0), (202, .getfield 28, 8, 9, 640), (205, .iload_n 2, 0, 0, 0), (206, .baload, 0, 0, 0)], (207, .ifCond .eq 24, 231, 210, 0)),
  (210, [(210, .aload_n 0, 0, 0, 0), (211, .getfield 13, 8, 2, 633), (214, .aload_n 0, 0, 0, 0), (215, .getfield 161, 8, 3, 634), (218, .bipush 45, 45, 0, 0), (220, .iastore, 0, 0, 0), (221, .aload_n 0, 0, 0, 0), (222, .dup, 0, 0, 0), (223, .getfield 161, 8, 3, 634), (226, .iconst 1, 1, 0, 0), (227, .iadd, 0, 0, 0), (228, .putfield 161, 8, 3, 634)], (231, .nop, 0, 0, 0)),
  (231, [], (231, .return_, 0, 0, 0))]
def mMd_layLine : MR := (⟨"PageFormatterModel", "layLine", "(II)V"⟩, prog_10_method_26_code, 8, (Option.none : Option Jvm.ClassFile.FieldType), 3, 67, bMd_layLine, 852, 851, 35, 63, 2)
set_option maxRecDepth 100000 in
theorem okMd_layLine : MOK mMd_layLine := ⟨by decide +kernel, by decide +kernel⟩
def bMd_addBlanks : List BLK := [
  (0, [(0, .iconst 0, 0, 0, 0), (1, .istore_n 2, 0, 0, 0)], (2, .nop, 0, 0, 0)),
  (2, [(2, .iload_n 2, 0, 0, 0), (3, .iload_n 1, 0, 0, 0)], (4, .if_icmp .ge 30, 34, 7, 0)),
  (7, [(7, .aload_n 0, 0, 0, 0), (8, .getfield 13, 8, 2, 633), (11, .aload_n 0, 0, 0, 0), (12, .getfield 161, 8, 3, 634), (15, .bipush 32, 32, 0, 0), (17, .iastore, 0, 0, 0), (18, .aload_n 0, 0, 0, 0), (19, .dup, 0, 0, 0), (20, .getfield 161, 8, 3, 634), (23, .iconst 1, 1, 0, 0), (24, .iadd, 0, 0, 0), (25, .putfield 161, 8, 3, 634), (28, .iinc 2 1, 1, 0, 0)], (31, .goto (-29), 2, 34, 0)),
  (34, [], (34, .return_, 0, 0, 0))]
def mMd_addBlanks : MR := (⟨"PageFormatterModel", "addBlanks", "(I)V"⟩, prog_10_method_27_code, 3, (Option.none : Option Jvm.ClassFile.FieldType), 0, 0, bMd_addBlanks, 856, 855, 36, 63, 1)
set_option maxRecDepth 100000 in
theorem okMd_addBlanks : MOK mMd_addBlanks := ⟨by decide +kernel, by decide +kernel⟩
